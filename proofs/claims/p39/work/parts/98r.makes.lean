theorem wd_332 : (Jvm.Cond.methodLink "FoxBurrowsLaw" (159 : Nat) ({ cls := "FoxBurrowsLaw", name := "at", desc := "([II)I" } : Jvm.MethodName)) ∈ TB := zTB 332 (by decide +kernel) (by decide +kernel)
theorem wd_333 : (Jvm.Cond.static ({ cls := "FoxBurrowsLaw", name := "at", desc := "([II)I" } : Jvm.MethodName)) ∈ TB := zTB 333 (by decide +kernel) (by decide +kernel)
theorem wd_334 : (Jvm.Cond.code ({ cls := "FoxBurrowsLaw", name := "at", desc := "([II)I" } : Jvm.MethodName) method_2_code (2 : Nat) (Option.some Jvm.ClassFile.FieldType.int)) ∈ TB := zTB 334 (by decide +kernel) (by decide +kernel)
theorem wd_335 : (Jvm.Cond.methodLink "FoxBurrowsLaw" (166 : Nat) ({ cls := "FoxBurrowsLaw", name := "dig", desc := "(LFoxBurrows;)I" } : Jvm.MethodName)) ∈ TB := zTB 335 (by decide +kernel) (by decide +kernel)
theorem wd_336 : (Jvm.Cond.static ({ cls := "FoxBurrowsLaw", name := "dig", desc := "(LFoxBurrows;)I" } : Jvm.MethodName)) ∈ TB := zTB 336 (by decide +kernel) (by decide +kernel)
theorem wd_337 : (Jvm.Cond.codeWith ({ cls := "FoxBurrowsLaw", name := "dig", desc := "(LFoxBurrows;)I" } : Jvm.MethodName) method_4_code (2 : Nat) (Option.some Jvm.ClassFile.FieldType.int) [((0 : Nat), (4 : Nat), (5 : Nat), (13 : Nat))]) ∈ TB := zTB 337 (by decide +kernel) (by decide +kernel)
theorem wd_449 : (Jvm.Cond.methodLink "FoxBurrowsLaw" (168 : Nat) ({ cls := "FoxBurrowsLaw", name := "tread", desc := "(LFoxBurrows;II)I" } : Jvm.MethodName)) ∈ TB := zTB 449 (by decide +kernel) (by decide +kernel)
theorem wd_450 : (Jvm.Cond.static ({ cls := "FoxBurrowsLaw", name := "tread", desc := "(LFoxBurrows;II)I" } : Jvm.MethodName)) ∈ TB := zTB 450 (by decide +kernel) (by decide +kernel)
theorem wd_451 : (Jvm.Cond.codeWith ({ cls := "FoxBurrowsLaw", name := "tread", desc := "(LFoxBurrows;II)I" } : Jvm.MethodName) method_5_code (4 : Nat) (Option.some Jvm.ClassFile.FieldType.int) [((0 : Nat), (6 : Nat), (7 : Nat), (13 : Nat))]) ∈ TB := zTB 451 (by decide +kernel) (by decide +kernel)
theorem wd_504 : (Jvm.Cond.methodLink "FoxBurrowsLaw" (174 : Nat) ({ cls := "FoxBurrowsLaw", name := "flock", desc := "(LFoxBurrows;I)I" } : Jvm.MethodName)) ∈ TB := zTB 504 (by decide +kernel) (by decide +kernel)
theorem wd_505 : (Jvm.Cond.static ({ cls := "FoxBurrowsLaw", name := "flock", desc := "(LFoxBurrows;I)I" } : Jvm.MethodName)) ∈ TB := zTB 505 (by decide +kernel) (by decide +kernel)
theorem wd_506 : (Jvm.Cond.codeWith ({ cls := "FoxBurrowsLaw", name := "flock", desc := "(LFoxBurrows;I)I" } : Jvm.MethodName) method_8_code (3 : Nat) (Option.some Jvm.ClassFile.FieldType.int) [((0 : Nat), (5 : Nat), (6 : Nat), (13 : Nat))]) ∈ TB := zTB 506 (by decide +kernel) (by decide +kernel)
theorem wd_894 : (Jvm.Cond.methodLink "FoxBurrowsLaw" (163 : Nat) ({ cls := "FoxBurrowsLaw", name := "some", desc := "(II)I" } : Jvm.MethodName)) ∈ TB := zTB 894 (by decide +kernel) (by decide +kernel)
theorem wd_895 : (Jvm.Cond.static ({ cls := "FoxBurrowsLaw", name := "some", desc := "(II)I" } : Jvm.MethodName)) ∈ TB := zTB 895 (by decide +kernel) (by decide +kernel)
theorem wd_896 : (Jvm.Cond.code ({ cls := "FoxBurrowsLaw", name := "some", desc := "(II)I" } : Jvm.MethodName) method_3_code (3 : Nat) (Option.some Jvm.ClassFile.FieldType.int)) ∈ TB := zTB 896 (by decide +kernel) (by decide +kernel)
theorem wd_897 : (Jvm.Cond.methodLink "FoxBurrowsLaw" (171 : Nat) ({ cls := "FoxBurrowsLaw", name := "trap", desc := "(LFoxBurrows;IZ)I" } : Jvm.MethodName)) ∈ TB := zTB 897 (by decide +kernel) (by decide +kernel)
theorem wd_898 : (Jvm.Cond.static ({ cls := "FoxBurrowsLaw", name := "trap", desc := "(LFoxBurrows;IZ)I" } : Jvm.MethodName)) ∈ TB := zTB 898 (by decide +kernel) (by decide +kernel)
theorem wd_899 : (Jvm.Cond.codeWith ({ cls := "FoxBurrowsLaw", name := "trap", desc := "(LFoxBurrows;IZ)I" } : Jvm.MethodName) method_7_code (4 : Nat) (Option.some Jvm.ClassFile.FieldType.int) [((0 : Nat), (6 : Nat), (7 : Nat), (13 : Nat))]) ∈ TB := zTB 899 (by decide +kernel) (by decide +kernel)
theorem hz_L_at : (yL_at.cls ≠ "java/lang/invoke/MethodHandle" ∧ yL_at.cls ≠ "java/lang/invoke/VarHandle" ∧ (parseMethodDescriptor yL_at.desc).map (fun d => d.parameters.length) = some 2) := ⟨by decide +kernel, by decide +kernel, by decide +kernel⟩
theorem hy_L_at : yL_at.cls = RL ∧ (yL_at.cls ≠ "java/lang/invoke/MethodHandle" ∧ yL_at.cls ≠ "java/lang/invoke/VarHandle" ∧ (parseMethodDescriptor yL_at.desc).map (fun d => d.parameters.length) = some 2) := ⟨rfl, hz_L_at⟩
theorem hz_L_dig : (yL_dig.cls ≠ "java/lang/invoke/MethodHandle" ∧ yL_dig.cls ≠ "java/lang/invoke/VarHandle" ∧ (parseMethodDescriptor yL_dig.desc).map (fun d => d.parameters.length) = some 1) := ⟨by decide +kernel, by decide +kernel, by decide +kernel⟩
theorem hy_L_dig : yL_dig.cls = RL ∧ (yL_dig.cls ≠ "java/lang/invoke/MethodHandle" ∧ yL_dig.cls ≠ "java/lang/invoke/VarHandle" ∧ (parseMethodDescriptor yL_dig.desc).map (fun d => d.parameters.length) = some 1) := ⟨rfl, hz_L_dig⟩
theorem hz_L_flock : (yL_flock.cls ≠ "java/lang/invoke/MethodHandle" ∧ yL_flock.cls ≠ "java/lang/invoke/VarHandle" ∧ (parseMethodDescriptor yL_flock.desc).map (fun d => d.parameters.length) = some 2) := ⟨by decide +kernel, by decide +kernel, by decide +kernel⟩
theorem hy_L_flock : yL_flock.cls = RL ∧ (yL_flock.cls ≠ "java/lang/invoke/MethodHandle" ∧ yL_flock.cls ≠ "java/lang/invoke/VarHandle" ∧ (parseMethodDescriptor yL_flock.desc).map (fun d => d.parameters.length) = some 2) := ⟨rfl, hz_L_flock⟩
theorem hz_L_some : (yL_some.cls ≠ "java/lang/invoke/MethodHandle" ∧ yL_some.cls ≠ "java/lang/invoke/VarHandle" ∧ (parseMethodDescriptor yL_some.desc).map (fun d => d.parameters.length) = some 2) := ⟨by decide +kernel, by decide +kernel, by decide +kernel⟩
theorem hy_L_some : yL_some.cls = RL ∧ (yL_some.cls ≠ "java/lang/invoke/MethodHandle" ∧ yL_some.cls ≠ "java/lang/invoke/VarHandle" ∧ (parseMethodDescriptor yL_some.desc).map (fun d => d.parameters.length) = some 2) := ⟨rfl, hz_L_some⟩
theorem hz_L_trap : (yL_trap.cls ≠ "java/lang/invoke/MethodHandle" ∧ yL_trap.cls ≠ "java/lang/invoke/VarHandle" ∧ (parseMethodDescriptor yL_trap.desc).map (fun d => d.parameters.length) = some 3) := ⟨by decide +kernel, by decide +kernel, by decide +kernel⟩
theorem hy_L_trap : yL_trap.cls = RL ∧ (yL_trap.cls ≠ "java/lang/invoke/MethodHandle" ∧ yL_trap.cls ≠ "java/lang/invoke/VarHandle" ∧ (parseMethodDescriptor yL_trap.desc).map (fun d => d.parameters.length) = some 3) := ⟨rfl, hz_L_trap⟩
theorem hz_L_tread : (yL_tread.cls ≠ "java/lang/invoke/MethodHandle" ∧ yL_tread.cls ≠ "java/lang/invoke/VarHandle" ∧ (parseMethodDescriptor yL_tread.desc).map (fun d => d.parameters.length) = some 3) := ⟨by decide +kernel, by decide +kernel, by decide +kernel⟩
theorem hy_L_tread : yL_tread.cls = RL ∧ (yL_tread.cls ≠ "java/lang/invoke/MethodHandle" ∧ yL_tread.cls ≠ "java/lang/invoke/VarHandle" ∧ (parseMethodDescriptor yL_tread.desc).map (fun d => d.parameters.length) = some 3) := ⟨rfl, hz_L_tread⟩
abbrev rm_L_makes : Room := { frames := 9, cells := 38, slots := 228, locals := 351 }
def wb_R_makes_190 (xs : Nat → Int32) (L : Nat) (Q : Int32 → MU → Prop) (u : MU) : Prop := Q (1 : Int32) u
set_option maxHeartbeats 4000000 in
set_option maxRecDepth 100000 in
theorem vb_R_makes_190 {p : Program} {l : Launch} {e : Env} {s : State} {m : MethodId} {args : Array Value} {below : List Frame} {meth : Method} {c : Code} {g : GE} {W : MU × ((Nat → Int64) × (Nat → UInt64))} {Q : Int32 → MU → Prop} {xs : Nat → Int32} {L : Nat} (hxs : g.2.2.2.2.2.1.2.2 = xs) (hLL : g.2.2.2.2.2.1.2.1 = L) (C : zCx p l s m args meth c g RL cL_makes 5) (hr : meth.sig.returnType = (Option.some Jvm.ClassFile.FieldType.boolean)) (hstk : l.stackTraces = false) (u : MU) (cz sz : Nat) (hz : cz + 0 + 0 ≤ 38) (hs : sz + 6 * (0 + 0) ≤ 228) (h : wb_R_makes_190 xs L Q u) : WM p l e rm_L_makes s m args below meth c g 5 cz sz (MQ below (zQi g (zPx W Q)) args s 38 228 (zA g)) 190 [] [] (u, W) := by
  unfold wb_R_makes_190 at h
  refine zm_iconst (v := 1) C dL_makes_190 (by decide) ?_
  refine zm_goto (tgt := 195) C dL_makes_191 (by decide) ?_
  refine zm_widen (k1 := 38) (n1 := 228) (by omega) (by omega) ?_
  exact zm_zret (ty := .boolean) C hr (by decide) dL_makes_195 ⟨_, rfl, h⟩
def wb_R_makes_170 (xs : Nat → Int32) (L : Nat) (Q : Int32 → MU → Prop) (u : MU) : Prop := w_R_at xs L (20 : Int32) (fun r_1 => (((r_1 &&& (1 : Int32)) = 0) → wb_R_makes_190 xs L Q u) ∧ ((¬ (r_1 &&& (1 : Int32)) = 0) → w_R_flock (2 : Int32) u (fun r_4 u_5 => ((¬ r_4 = (1 : Int32)) → Q (0 : Int32) u_5) ∧ ((r_4 = (1 : Int32)) → wb_R_makes_190 xs L Q u_5))))
set_option maxHeartbeats 4000000 in
set_option maxRecDepth 100000 in
theorem vb_R_makes_170 {p : Program} {l : Launch} {e : Env} {s : State} {m : MethodId} {args : Array Value} {below : List Frame} {meth : Method} {c : Code} {g : GE} {W : MU × ((Nat → Int64) × (Nat → UInt64))} {Q : Int32 → MU → Prop} {xs : Nat → Int32} {L : Nat} (hxs : g.2.2.2.2.2.1.2.2 = xs) (hLL : g.2.2.2.2.2.1.2.1 = L) (C : zCx p l s m args meth c g RL cL_makes 5) (hr : meth.sig.returnType = (Option.some Jvm.ClassFile.FieldType.boolean)) (hstk : l.stackTraces = false) (u : MU) (cz sz : Nat) (hz : cz + 1 + 0 ≤ 38) (hs : sz + 6 * (1 + 0) ≤ 228) (h : wb_R_makes_170 xs L Q u) : WM p l e rm_L_makes s m args below meth c g 5 cz sz (MQ below (zQi g (zPx W Q)) args s 38 228 (zA g)) 170 [(0, .ref (g.2.2.1 0)), (1, .ref g.2.2.2.2.2.1.1)] [] (u, W) := by
  unfold wb_R_makes_170 at h
  refine zm_aload_n C dL_makes_170 rfl 1 rfl ?_
  refine zm_bipush (v := 20) C dL_makes_171 (by decide) ?_
  refine zm_ci (zr_S (As := [.ref g.2.2.2.2.2.1.1, .int (20 : Int32)]) (rest := []) C (c_L_at l _ (u, W) hxs hLL (20 : Int32) h) wd_332 wd_333 wd_0 wd_334 hy_L_at rfl rfl ⟨by decide, by decide⟩ ⟨(show cz + 0 ≤ 38 by omega), (show sz + 0 ≤ 228 by omega)⟩ rfl rfl (Nat.le_of_ble_eq_true rfl) dL_makes_173) (fun r_1 M1 hq => ?_)
  obtain ⟨rfl, h⟩ := hq
  refine zm_iconst (v := 1) C dL_makes_176 (by decide) ?_
  refine zm_iand C dL_makes_177 ?_
  refine zm_if_eq (tgt := 190) C dL_makes_178 (by decide) (fun hc_3 => ?_) (fun hc_3 => ?_)
  · have h := h.1 hc_3
    exact zm_sub [] rfl (vb_R_makes_190 hxs hLL C hr hstk  _ _ _ (by omega) (by omega) h)
  · have h := h.2 hc_3
    refine zm_aload_n C dL_makes_181 rfl 0 rfl ?_
    refine zm_iconst (v := 2) C dL_makes_182 (by decide) ?_
    refine zm_ci (zr_SW (As := [.ref (g.2.2.1 0), .int (2 : Int32)]) (rest := []) C (c_L_flock l hstk _ u W (2 : Int32) h) wd_504 wd_505 wd_0 wd_506 hz_L_flock rfl rfl ⟨by decide, by decide⟩ ⟨(show cz + 1 ≤ 38 by omega), (show sz + 6 ≤ 228 by omega)⟩ rfl rfl (Nat.le_of_ble_eq_true rfl) dL_makes_183) (fun r_4 M1 hq => ?_)
    obtain ⟨u_5, rfl, h⟩ := hq
    refine zm_iconst (v := 1) C dL_makes_186 (by decide) ?_
    refine zm_icmp_ne (tgt := 194) C dL_makes_187 (by decide) (fun hc_6 => ?_) (fun hc_6 => ?_)
    · have h := h.1 hc_6
      refine zm_iconst (v := 0) C dL_makes_194 (by decide) ?_
      refine zm_widen (k1 := 38) (n1 := 228) (by omega) (by omega) ?_
      exact zm_zret (ty := .boolean) C hr (by decide) dL_makes_195 ⟨_, rfl, h⟩
    · have h := h.2 hc_6
      exact zm_sub [] rfl (vb_R_makes_190 hxs hLL C hr hstk  _ _ _ (by omega) (by omega) h)
def wb_R_makes_132 (xs : Nat → Int32) (L : Nat) (L72 : Int32 → Int32 → (MU) → Prop) (Q : Int32 → MU → Prop) (x2 : Int32) (x3 : Int32) (u : MU) : Prop := ∀ x3_1, x3_1 = x3 + (1 : Int32) → L72 x2 x3_1 u
set_option maxHeartbeats 4000000 in
set_option maxRecDepth 100000 in
theorem vb_R_makes_132 {p : Program} {l : Launch} {e : Env} {s : State} {m : MethodId} {args : Array Value} {below : List Frame} {meth : Method} {c : Code} {g : GE} {W : MU × ((Nat → Int64) × (Nat → UInt64))} {Q : Int32 → MU → Prop} {xs : Nat → Int32} {L : Nat} (hxs : g.2.2.2.2.2.1.2.2 = xs) (hLL : g.2.2.2.2.2.1.2.1 = L) (C : zCx p l s m args meth c g RL cL_makes 5) (hr : meth.sig.returnType = (Option.some Jvm.ClassFile.FieldType.boolean)) (hstk : l.stackTraces = false) {O72 : Nat} (hO72 : 5 + 0 ≤ O72) {L72 : Int32 → Int32 → (MU) → Prop} (hL72 : ∀ (x2 : Int32) (x3 : Int32) (u : MU) (cz sz : Nat), cz + O72 ≤ 38 → sz + 6 * O72 ≤ 228 → L72 x2 x3 u → WM p l e rm_L_makes s m args below meth c g 5 cz sz (MQ below (zQi g (zPx W Q)) args s 38 228 (zA g)) 72 [(0, .ref (g.2.2.1 0)), (1, .ref g.2.2.2.2.2.1.1), (2, .int x2), (3, .int x3)] [] (u, W)) (x2 : Int32) (x3 : Int32) (u : MU) (cz sz : Nat) (hz : cz + 0 + O72 ≤ 38) (hs : sz + 6 * (0 + O72) ≤ 228) (h : wb_R_makes_132 xs L L72 Q x2 x3 u) : WM p l e rm_L_makes s m args below meth c g 5 cz sz (MQ below (zQi g (zPx W Q)) args s 38 228 (zA g)) 132 [(0, .ref (g.2.2.1 0)), (1, .ref g.2.2.2.2.2.1.1), (2, .int x2), (3, .int x3)] [] (u, W) := by
  unfold wb_R_makes_132 at h
  obtain ⟨x3_1, hx3_1⟩ : ∃ z, z = x3 + (1 : Int32) := ⟨_, rfl⟩
  have h := h x3_1 hx3_1
  refine zm_iinc (v := x3_1) (lv' := [(3, .int x3_1), (0, .ref (g.2.2.1 0)), (1, .ref g.2.2.2.2.2.1.1), (2, .int x2)]) C dL_makes_132 3 rfl (by rw [hx3_1]; rfl) (by decide) rfl ?_
  refine zm_goto (tgt := 72) C dL_makes_135 (by decide) ?_
  exact zm_sub [1, 2, 3, 0] rfl (hL72 _ _ _ _ _ (by omega) (by omega) h)
def wl_R_makes_72 (xs : Nat → Int32) (L : Nat) (Q : Int32 → MU → Prop) : Nat → Int32 → Int32 → (MU) → Prop
  | 0, _, _, _ => False
  | n + 1, x2, x3, u => (((5 : Int32) ≤ x3) → w_R_at xs L (18 : Int32) (fun r_2 => ((¬ (r_2 &&& (3 : Int32)) = 0) → wb_R_makes_170 xs L Q u) ∧ (((r_2 &&& (3 : Int32)) = 0) → w_R_at xs L (19 : Int32) (fun r_5 => w_R_some r_5 x2 (fun r_7 => w_R_trap r_7 (1 : Int32) u (fun r_9 u_10 => ((r_9 = (1 : Int32)) → wb_R_makes_170 xs L Q u_10) ∧ ((¬ r_9 = (1 : Int32)) → Q (0 : Int32) u_10))))))) ∧ ((¬ (5 : Int32) ≤ x3) → w_R_at xs L ((8 : Int32) + x3) (fun r_12 => w_R_some r_12 x2 (fun r_14 => w_R_at xs L ((13 : Int32) + x3) (fun r_16 => w_R_some r_16 x2 (fun r_18 => w_R_tread r_14 r_18 u (fun r_20 u_21 => ((0 ≤ r_20) → wb_R_makes_132 xs L (fun x2' x3' u' => wl_R_makes_72 xs L Q n x2' x3' u') Q x2 x3 u_21) ∧ ((¬ 0 ≤ r_20) → w_R_reason (0 : Int32) u_21 (fun r_23 u_24 => ((r_23 = (4 : Int32)) → wb_R_makes_132 xs L (fun x2' x3' u' => wl_R_makes_72 xs L Q n x2' x3' u') Q x2 x3 u_24) ∧ ((¬ r_23 = (4 : Int32)) → w_R_reason (0 : Int32) u_24 (fun r_26 u_27 => ((r_26 = (5 : Int32)) → wb_R_makes_132 xs L (fun x2' x3' u' => wl_R_makes_72 xs L Q n x2' x3' u') Q x2 x3 u_27) ∧ ((¬ r_26 = (5 : Int32)) → Q (0 : Int32) u_27)))))))))))
set_option maxHeartbeats 4000000 in
set_option maxRecDepth 100000 in
theorem vl_R_makes_72 {p : Program} {l : Launch} {e : Env} {s : State} {m : MethodId} {args : Array Value} {below : List Frame} {meth : Method} {c : Code} {g : GE} {W : MU × ((Nat → Int64) × (Nat → UInt64))} {Q : Int32 → MU → Prop} {xs : Nat → Int32} {L : Nat} (hxs : g.2.2.2.2.2.1.2.2 = xs) (hLL : g.2.2.2.2.2.1.2.1 = L) (C : zCx p l s m args meth c g RL cL_makes 5) (hr : meth.sig.returnType = (Option.some Jvm.ClassFile.FieldType.boolean)) (hstk : l.stackTraces = false) : ∀ (n : Nat) (x2 : Int32) (x3 : Int32) (u : MU) (cz sz : Nat), cz + (n * 3 + 5 + 0) ≤ 38 → sz + 6 * (n * 3 + 5 + 0) ≤ 228 → wl_R_makes_72 xs L Q n x2 x3 u → WM p l e rm_L_makes s m args below meth c g 5 cz sz (MQ below (zQi g (zPx W Q)) args s 38 228 (zA g)) 72 [(0, .ref (g.2.2.1 0)), (1, .ref g.2.2.2.2.2.1.1), (2, .int x2), (3, .int x3)] [] (u, W) := by
  intro n
  induction n with
  | zero => intro _ _ _ _ _ _ _ h; exact h.elim
  | succ n ih =>
    intro x2 x3 u cz sz hz hs h
    unfold wl_R_makes_72 at h
    rw [Nat.succ_mul] at hz hs
    refine zm_iload_n C dL_makes_72 rfl 3 rfl ?_
    refine zm_iconst (v := 5) C dL_makes_73 (by decide) ?_
    refine zm_icmp_ge (tgt := 138) C dL_makes_74 (by decide) (fun hc_1 => ?_) (fun hc_1 => ?_)
    · have h := h.1 hc_1
      refine zm_aload_n C dL_makes_138 rfl 1 rfl ?_
      refine zm_bipush (v := 18) C dL_makes_139 (by decide) ?_
      refine zm_ci (zr_S (As := [.ref g.2.2.2.2.2.1.1, .int (18 : Int32)]) (rest := []) C (c_L_at l _ (u, W) hxs hLL (18 : Int32) h) wd_332 wd_333 wd_0 wd_334 hy_L_at rfl rfl ⟨by decide, by decide⟩ ⟨(show cz + 0 ≤ 38 by omega), (show sz + 0 ≤ 228 by omega)⟩ rfl rfl (Nat.le_of_ble_eq_true rfl) dL_makes_141) (fun r_2 M1 hq => ?_)
      obtain ⟨rfl, h⟩ := hq
      refine zm_iconst (v := 3) C dL_makes_144 (by decide) ?_
      refine zm_iand C dL_makes_145 ?_
      refine zm_if_ne (tgt := 170) C dL_makes_146 (by decide) (fun hc_4 => ?_) (fun hc_4 => ?_)
      · have h := h.1 hc_4
        exact zm_sub [0, 1] rfl (vb_R_makes_170 hxs hLL C hr hstk  _ _ _ (by omega) (by omega) h)
      · have h := h.2 hc_4
        refine zm_aload_n C dL_makes_149 rfl 0 rfl ?_
        refine zm_aload_n C dL_makes_150 rfl 1 rfl ?_
        refine zm_bipush (v := 19) C dL_makes_151 (by decide) ?_
        refine zm_ci (zr_S (As := [.ref g.2.2.2.2.2.1.1, .int (19 : Int32)]) (rest := [.ref (g.2.2.1 0)]) C (c_L_at l _ (u, W) hxs hLL (19 : Int32) h) wd_332 wd_333 wd_0 wd_334 hy_L_at rfl rfl ⟨by decide, by decide⟩ ⟨(show cz + 0 ≤ 38 by omega), (show sz + 0 ≤ 228 by omega)⟩ rfl rfl (Nat.le_of_ble_eq_true rfl) dL_makes_153) (fun r_5 M1 hq => ?_)
        obtain ⟨rfl, h⟩ := hq
        refine zm_iload_n C dL_makes_156 rfl 2 rfl ?_
        refine zm_ci (zr_S (As := [.int r_5, .int x2]) (rest := [.ref (g.2.2.1 0)]) C (c_L_some l _ (u, W) r_5 x2 h) wd_894 wd_895 wd_0 wd_896 hy_L_some rfl rfl ⟨by decide, by decide⟩ ⟨(show cz + 0 ≤ 38 by omega), (show sz + 0 ≤ 228 by omega)⟩ rfl rfl (Nat.le_of_ble_eq_true rfl) dL_makes_157) (fun r_7 M1 hq => ?_)
        obtain ⟨rfl, h⟩ := hq
        refine zm_iconst (v := 1) C dL_makes_160 (by decide) ?_
        refine zm_ci (zr_SW (As := [.ref (g.2.2.1 0), .int r_7, .int (1 : Int32)]) (rest := []) C (c_L_trap l hstk _ u W r_7 (1 : Int32) h) wd_897 wd_898 wd_0 wd_899 hz_L_trap rfl rfl ⟨by decide, by decide⟩ ⟨(show cz + 1 ≤ 38 by omega), (show sz + 6 ≤ 228 by omega)⟩ rfl rfl (Nat.le_of_ble_eq_true rfl) dL_makes_161) (fun r_9 M1 hq => ?_)
        obtain ⟨u_10, rfl, h⟩ := hq
        refine zm_iconst (v := 1) C dL_makes_164 (by decide) ?_
        refine zm_icmp_eq (tgt := 170) C dL_makes_165 (by decide) (fun hc_11 => ?_) (fun hc_11 => ?_)
        · have h := h.1 hc_11
          exact zm_sub [0, 1] rfl (vb_R_makes_170 hxs hLL C hr hstk  _ _ _ (by omega) (by omega) h)
        · have h := h.2 hc_11
          refine zm_iconst (v := 0) C dL_makes_168 (by decide) ?_
          refine zm_widen (k1 := 38) (n1 := 228) (by omega) (by omega) ?_
          exact zm_zret (ty := .boolean) C hr (by decide) dL_makes_169 ⟨_, rfl, h⟩
    · have h := h.2 hc_1
      refine zm_aload_n C dL_makes_77 rfl 0 rfl ?_
      refine zm_aload_n C dL_makes_78 rfl 1 rfl ?_
      refine zm_bipush (v := 8) C dL_makes_79 (by decide) ?_
      refine zm_iload_n C dL_makes_81 rfl 3 rfl ?_
      refine zm_iadd C dL_makes_82 ?_
      refine zm_ci (zr_S (As := [.ref g.2.2.2.2.2.1.1, .int ((8 : Int32) + x3)]) (rest := [.ref (g.2.2.1 0)]) C (c_L_at l _ (u, W) hxs hLL ((8 : Int32) + x3) h) wd_332 wd_333 wd_0 wd_334 hy_L_at rfl rfl ⟨by decide, by decide⟩ ⟨(show cz + 0 ≤ 38 by omega), (show sz + 0 ≤ 228 by omega)⟩ rfl rfl (Nat.le_of_ble_eq_true rfl) dL_makes_83) (fun r_12 M1 hq => ?_)
      obtain ⟨rfl, h⟩ := hq
      refine zm_iload_n C dL_makes_86 rfl 2 rfl ?_
      refine zm_ci (zr_S (As := [.int r_12, .int x2]) (rest := [.ref (g.2.2.1 0)]) C (c_L_some l _ (u, W) r_12 x2 h) wd_894 wd_895 wd_0 wd_896 hy_L_some rfl rfl ⟨by decide, by decide⟩ ⟨(show cz + 0 ≤ 38 by omega), (show sz + 0 ≤ 228 by omega)⟩ rfl rfl (Nat.le_of_ble_eq_true rfl) dL_makes_87) (fun r_14 M1 hq => ?_)
      obtain ⟨rfl, h⟩ := hq
      refine zm_aload_n C dL_makes_90 rfl 1 rfl ?_
      refine zm_bipush (v := 13) C dL_makes_91 (by decide) ?_
      refine zm_iload_n C dL_makes_93 rfl 3 rfl ?_
      refine zm_iadd C dL_makes_94 ?_
      refine zm_ci (zr_S (As := [.ref g.2.2.2.2.2.1.1, .int ((13 : Int32) + x3)]) (rest := [.int r_14, .ref (g.2.2.1 0)]) C (c_L_at l _ (u, W) hxs hLL ((13 : Int32) + x3) h) wd_332 wd_333 wd_0 wd_334 hy_L_at rfl rfl ⟨by decide, by decide⟩ ⟨(show cz + 0 ≤ 38 by omega), (show sz + 0 ≤ 228 by omega)⟩ rfl rfl (Nat.le_of_ble_eq_true rfl) dL_makes_95) (fun r_16 M1 hq => ?_)
      obtain ⟨rfl, h⟩ := hq
      refine zm_iload_n C dL_makes_98 rfl 2 rfl ?_
      refine zm_ci (zr_S (As := [.int r_16, .int x2]) (rest := [.int r_14, .ref (g.2.2.1 0)]) C (c_L_some l _ (u, W) r_16 x2 h) wd_894 wd_895 wd_0 wd_896 hy_L_some rfl rfl ⟨by decide, by decide⟩ ⟨(show cz + 0 ≤ 38 by omega), (show sz + 0 ≤ 228 by omega)⟩ rfl rfl (Nat.le_of_ble_eq_true rfl) dL_makes_99) (fun r_18 M1 hq => ?_)
      obtain ⟨rfl, h⟩ := hq
      refine zm_ci (zr_SW (As := [.ref (g.2.2.1 0), .int r_14, .int r_18]) (rest := []) C (c_L_tread l hstk _ u W r_14 r_18 h) wd_449 wd_450 wd_0 wd_451 hz_L_tread rfl rfl ⟨by decide, by decide⟩ ⟨(show cz + 1 ≤ 38 by omega), (show sz + 6 ≤ 228 by omega)⟩ rfl rfl (Nat.le_of_ble_eq_true rfl) dL_makes_102) (fun r_20 M1 hq => ?_)
      obtain ⟨u_21, rfl, h⟩ := hq
      refine zm_istore (lv' := [(4, .int r_20), (0, .ref (g.2.2.1 0)), (1, .ref g.2.2.2.2.2.1.1), (2, .int x2), (3, .int x3)]) C dL_makes_105 (by decide) rfl ?_
      refine zm_iload C dL_makes_107 0 rfl ?_
      refine zm_if_ge (tgt := 132) C dL_makes_109 (by decide) (fun hc_22 => ?_) (fun hc_22 => ?_)
      · have h := h.1 hc_22
        exact zm_sub [1, 2, 3, 4] rfl (vb_R_makes_132 hxs hLL C hr hstk (O72 := n * 3 + 5 + 0) (by omega) (fun _ _ _ _ _ h1 h2 h3 => ih _ _ _ _ _ (by omega) (by omega) h3) _ _ _ _ _ (by omega) (by omega) h)
      · have h := h.2 hc_22
        refine zm_aload_n C dL_makes_112 rfl 1 rfl ?_
        refine zm_iconst (v := 0) C dL_makes_113 (by decide) ?_
        refine zm_ci (zr_SW (As := [.ref (g.2.2.1 0), .int (0 : Int32)]) (rest := []) C (c_L_reason l hstk _ u_21 W (0 : Int32) h) wd_866 wd_867 wd_0 wd_868 hz_L_reason rfl rfl ⟨by decide, by decide⟩ ⟨(show (cz + 1) + 1 ≤ 38 by omega), (show (sz + 6) + 6 ≤ 228 by omega)⟩ rfl rfl (Nat.le_of_ble_eq_true rfl) dL_makes_114) (fun r_23 M1 hq => ?_)
        obtain ⟨u_24, rfl, h⟩ := hq
        refine zm_iconst (v := 4) C dL_makes_117 (by decide) ?_
        refine zm_icmp_eq (tgt := 132) C dL_makes_118 (by decide) (fun hc_25 => ?_) (fun hc_25 => ?_)
        · have h := h.1 hc_25
          exact zm_sub [1, 2, 3, 4] rfl (vb_R_makes_132 hxs hLL C hr hstk (O72 := n * 3 + 5 + 0) (by omega) (fun _ _ _ _ _ h1 h2 h3 => ih _ _ _ _ _ (by omega) (by omega) h3) _ _ _ _ _ (by omega) (by omega) h)
        · have h := h.2 hc_25
          refine zm_aload_n C dL_makes_121 rfl 1 rfl ?_
          refine zm_iconst (v := 0) C dL_makes_122 (by decide) ?_
          refine zm_ci (zr_SW (As := [.ref (g.2.2.1 0), .int (0 : Int32)]) (rest := []) C (c_L_reason l hstk _ u_24 W (0 : Int32) h) wd_866 wd_867 wd_0 wd_868 hz_L_reason rfl rfl ⟨by decide, by decide⟩ ⟨(show (cz + 2) + 1 ≤ 38 by omega), (show (sz + 12) + 6 ≤ 228 by omega)⟩ rfl rfl (Nat.le_of_ble_eq_true rfl) dL_makes_123) (fun r_26 M1 hq => ?_)
          obtain ⟨u_27, rfl, h⟩ := hq
          refine zm_iconst (v := 5) C dL_makes_126 (by decide) ?_
          refine zm_icmp_eq (tgt := 132) C dL_makes_127 (by decide) (fun hc_28 => ?_) (fun hc_28 => ?_)
          · have h := h.1 hc_28
            exact zm_sub [1, 2, 3, 4] rfl (vb_R_makes_132 hxs hLL C hr hstk (O72 := n * 3 + 5 + 0) (by omega) (fun _ _ _ _ _ h1 h2 h3 => ih _ _ _ _ _ (by omega) (by omega) h3) _ _ _ _ _ (by omega) (by omega) h)
          · have h := h.2 hc_28
            refine zm_iconst (v := 0) C dL_makes_130 (by decide) ?_
            refine zm_widen (k1 := 38) (n1 := 228) (by omega) (by omega) ?_
            exact zm_zret (ty := .boolean) C hr (by decide) dL_makes_131 ⟨_, rfl, h⟩
def wl_R_makes_37 (xs : Nat → Int32) (L : Nat) (Q : Int32 → MU → Prop) : Nat → Int32 → Int32 → (MU) → Prop
  | 0, _, _, _ => False
  | n + 1, x2, x3, u => ((x2 ≤ x3) → ∃ nn, nn ≤ 6 ∧ wl_R_makes_72 xs L Q nn x2 (0 : Int32) u) ∧ ((¬ x2 ≤ x3) → w_R_at xs L x3 (fun r_2 => w_R_some r_2 x3 (fun r_4 => w_R_tread x3 r_4 u (fun r_6 u_7 => ((r_6 = (x3 - (1 : Int32))) → ∀ x3_9, x3_9 = x3 + (1 : Int32) → wl_R_makes_37 xs L Q n x2 x3_9 u_7) ∧ ((¬ r_6 = (x3 - (1 : Int32))) → Q (0 : Int32) u_7)))))
set_option maxHeartbeats 4000000 in
set_option maxRecDepth 100000 in
theorem vl_R_makes_37 {p : Program} {l : Launch} {e : Env} {s : State} {m : MethodId} {args : Array Value} {below : List Frame} {meth : Method} {c : Code} {g : GE} {W : MU × ((Nat → Int64) × (Nat → UInt64))} {Q : Int32 → MU → Prop} {xs : Nat → Int32} {L : Nat} (hxs : g.2.2.2.2.2.1.2.2 = xs) (hLL : g.2.2.2.2.2.1.2.1 = L) (C : zCx p l s m args meth c g RL cL_makes 5) (hr : meth.sig.returnType = (Option.some Jvm.ClassFile.FieldType.boolean)) (hstk : l.stackTraces = false) : ∀ (n : Nat) (x2 : Int32) (x3 : Int32) (u : MU) (cz sz : Nat), cz + (n * 1 + 24 + 0) ≤ 38 → sz + 6 * (n * 1 + 24 + 0) ≤ 228 → wl_R_makes_37 xs L Q n x2 x3 u → WM p l e rm_L_makes s m args below meth c g 5 cz sz (MQ below (zQi g (zPx W Q)) args s 38 228 (zA g)) 37 [(0, .ref (g.2.2.1 0)), (1, .ref g.2.2.2.2.2.1.1), (2, .int x2), (3, .int x3)] [] (u, W) := by
  intro n
  induction n with
  | zero => intro _ _ _ _ _ _ _ h; exact h.elim
  | succ n ih =>
    intro x2 x3 u cz sz hz hs h
    unfold wl_R_makes_37 at h
    rw [Nat.succ_mul] at hz hs
    refine zm_iload_n C dL_makes_37 rfl 3 rfl ?_
    refine zm_iload_n C dL_makes_38 rfl 2 rfl ?_
    refine zm_icmp_ge (tgt := 70) C dL_makes_39 (by decide) (fun hc_1 => ?_) (fun hc_1 => ?_)
    · have h := h.1 hc_1
      refine zm_iconst (v := 0) C dL_makes_70 (by decide) ?_
      refine zm_istore_n (lv' := [(3, .int (0 : Int32)), (0, .ref (g.2.2.1 0)), (1, .ref g.2.2.2.2.2.1.1), (2, .int x2)]) C dL_makes_71 rfl (by decide) rfl ?_
      obtain ⟨nn, hnn, h⟩ := h
      exact zm_sub [1, 2, 3, 0] rfl (vl_R_makes_72 hxs hLL C hr hstk  nn _ _ _ _ _ (by omega) (by omega) h)
    · have h := h.2 hc_1
      refine zm_aload_n C dL_makes_42 rfl 0 rfl ?_
      refine zm_iload_n C dL_makes_43 rfl 3 rfl ?_
      refine zm_aload_n C dL_makes_44 rfl 1 rfl ?_
      refine zm_iload_n C dL_makes_45 rfl 3 rfl ?_
      refine zm_ci (zr_S (As := [.ref g.2.2.2.2.2.1.1, .int x3]) (rest := [.int x3, .ref (g.2.2.1 0)]) C (c_L_at l _ (u, W) hxs hLL x3 h) wd_332 wd_333 wd_0 wd_334 hy_L_at rfl rfl ⟨by decide, by decide⟩ ⟨(show cz + 0 ≤ 38 by omega), (show sz + 0 ≤ 228 by omega)⟩ rfl rfl (Nat.le_of_ble_eq_true rfl) dL_makes_46) (fun r_2 M1 hq => ?_)
      obtain ⟨rfl, h⟩ := hq
      refine zm_iload_n C dL_makes_49 rfl 3 rfl ?_
      refine zm_ci (zr_S (As := [.int r_2, .int x3]) (rest := [.int x3, .ref (g.2.2.1 0)]) C (c_L_some l _ (u, W) r_2 x3 h) wd_894 wd_895 wd_0 wd_896 hy_L_some rfl rfl ⟨by decide, by decide⟩ ⟨(show cz + 0 ≤ 38 by omega), (show sz + 0 ≤ 228 by omega)⟩ rfl rfl (Nat.le_of_ble_eq_true rfl) dL_makes_50) (fun r_4 M1 hq => ?_)
      obtain ⟨rfl, h⟩ := hq
      refine zm_ci (zr_SW (As := [.ref (g.2.2.1 0), .int x3, .int r_4]) (rest := []) C (c_L_tread l hstk _ u W x3 r_4 h) wd_449 wd_450 wd_0 wd_451 hz_L_tread rfl rfl ⟨by decide, by decide⟩ ⟨(show cz + 1 ≤ 38 by omega), (show sz + 6 ≤ 228 by omega)⟩ rfl rfl (Nat.le_of_ble_eq_true rfl) dL_makes_53) (fun r_6 M1 hq => ?_)
      obtain ⟨u_7, rfl, h⟩ := hq
      refine zm_iload_n C dL_makes_56 rfl 3 rfl ?_
      refine zm_iconst (v := 1) C dL_makes_57 (by decide) ?_
      refine zm_isub C dL_makes_58 ?_
      refine zm_icmp_eq (tgt := 64) C dL_makes_59 (by decide) (fun hc_8 => ?_) (fun hc_8 => ?_)
      · have h := h.1 hc_8
        obtain ⟨x3_9, hx3_9⟩ : ∃ z, z = x3 + (1 : Int32) := ⟨_, rfl⟩
        have h := h x3_9 hx3_9
        refine zm_iinc (v := x3_9) (lv' := [(3, .int x3_9), (0, .ref (g.2.2.1 0)), (1, .ref g.2.2.2.2.2.1.1), (2, .int x2)]) C dL_makes_64 3 rfl (by rw [hx3_9]; rfl) (by decide) rfl ?_
        refine zm_goto (tgt := 37) C dL_makes_67 (by decide) ?_
        exact zm_sub [1, 2, 3, 0] rfl (ih _ _ _ _ _ (by omega) (by omega) h)
      · have h := h.2 hc_8
        refine zm_iconst (v := 0) C dL_makes_62 (by decide) ?_
        refine zm_widen (k1 := 38) (n1 := 228) (by omega) (by omega) ?_
        exact zm_zret (ty := .boolean) C hr (by decide) dL_makes_63 ⟨_, rfl, h⟩
def wl_R_makes_14 (xs : Nat → Int32) (L : Nat) (Q : Int32 → MU → Prop) : Nat → Int32 → Int32 → (MU) → Prop
  | 0, _, _, _ => False
  | n + 1, x2, x3, u => ((x2 ≤ x3) → ∃ nn, nn ≤ 6 ∧ wl_R_makes_37 xs L Q nn x2 (1 : Int32) u) ∧ ((¬ x2 ≤ x3) → w_R_dig  u (fun r_2 u_3 => ((r_2 = x3) → ∀ x3_5, x3_5 = x3 + (1 : Int32) → wl_R_makes_14 xs L Q n x2 x3_5 u_3) ∧ ((¬ r_2 = x3) → Q (0 : Int32) u_3)))
set_option maxHeartbeats 4000000 in
set_option maxRecDepth 100000 in
theorem vl_R_makes_14 {p : Program} {l : Launch} {e : Env} {s : State} {m : MethodId} {args : Array Value} {below : List Frame} {meth : Method} {c : Code} {g : GE} {W : MU × ((Nat → Int64) × (Nat → UInt64))} {Q : Int32 → MU → Prop} {xs : Nat → Int32} {L : Nat} (hxs : g.2.2.2.2.2.1.2.2 = xs) (hLL : g.2.2.2.2.2.1.2.1 = L) (C : zCx p l s m args meth c g RL cL_makes 5) (hr : meth.sig.returnType = (Option.some Jvm.ClassFile.FieldType.boolean)) (hstk : l.stackTraces = false) : ∀ (n : Nat) (x2 : Int32) (x3 : Int32) (u : MU) (cz sz : Nat), cz + (n * 1 + 31 + 0) ≤ 38 → sz + 6 * (n * 1 + 31 + 0) ≤ 228 → wl_R_makes_14 xs L Q n x2 x3 u → WM p l e rm_L_makes s m args below meth c g 5 cz sz (MQ below (zQi g (zPx W Q)) args s 38 228 (zA g)) 14 [(0, .ref (g.2.2.1 0)), (1, .ref g.2.2.2.2.2.1.1), (2, .int x2), (3, .int x3)] [] (u, W) := by
  intro n
  induction n with
  | zero => intro _ _ _ _ _ _ _ h; exact h.elim
  | succ n ih =>
    intro x2 x3 u cz sz hz hs h
    unfold wl_R_makes_14 at h
    rw [Nat.succ_mul] at hz hs
    refine zm_iload_n C dL_makes_14 rfl 3 rfl ?_
    refine zm_iload_n C dL_makes_15 rfl 2 rfl ?_
    refine zm_icmp_ge (tgt := 35) C dL_makes_16 (by decide) (fun hc_1 => ?_) (fun hc_1 => ?_)
    · have h := h.1 hc_1
      refine zm_iconst (v := 1) C dL_makes_35 (by decide) ?_
      refine zm_istore_n (lv' := [(3, .int (1 : Int32)), (0, .ref (g.2.2.1 0)), (1, .ref g.2.2.2.2.2.1.1), (2, .int x2)]) C dL_makes_36 rfl (by decide) rfl ?_
      obtain ⟨nn, hnn, h⟩ := h
      exact zm_sub [1, 2, 3, 0] rfl (vl_R_makes_37 hxs hLL C hr hstk  nn _ _ _ _ _ (by omega) (by omega) h)
    · have h := h.2 hc_1
      refine zm_aload_n C dL_makes_19 rfl 0 rfl ?_
      refine zm_ci (zr_SW (As := [.ref (g.2.2.1 0)]) (rest := []) C (c_L_dig l hstk _ u W  h) wd_335 wd_336 wd_0 wd_337 hz_L_dig rfl rfl ⟨by decide, by decide⟩ ⟨(show cz + 1 ≤ 38 by omega), (show sz + 6 ≤ 228 by omega)⟩ rfl rfl (Nat.le_of_ble_eq_true rfl) dL_makes_20) (fun r_2 M1 hq => ?_)
      obtain ⟨u_3, rfl, h⟩ := hq
      refine zm_iload_n C dL_makes_23 rfl 3 rfl ?_
      refine zm_icmp_eq (tgt := 29) C dL_makes_24 (by decide) (fun hc_4 => ?_) (fun hc_4 => ?_)
      · have h := h.1 hc_4
        obtain ⟨x3_5, hx3_5⟩ : ∃ z, z = x3 + (1 : Int32) := ⟨_, rfl⟩
        have h := h x3_5 hx3_5
        refine zm_iinc (v := x3_5) (lv' := [(3, .int x3_5), (0, .ref (g.2.2.1 0)), (1, .ref g.2.2.2.2.2.1.1), (2, .int x2)]) C dL_makes_29 3 rfl (by rw [hx3_5]; rfl) (by decide) rfl ?_
        refine zm_goto (tgt := 14) C dL_makes_32 (by decide) ?_
        exact zm_sub [1, 2, 3, 0] rfl (ih _ _ _ _ _ (by omega) (by omega) h)
      · have h := h.2 hc_4
        refine zm_iconst (v := 0) C dL_makes_27 (by decide) ?_
        refine zm_widen (k1 := 38) (n1 := 228) (by omega) (by omega) ?_
        exact zm_zret (ty := .boolean) C hr (by decide) dL_makes_28 ⟨_, rfl, h⟩
def w_R_makes (xs : Nat → Int32) (L : Nat) (u : MU) (Q : Int32 → MU → Prop) : Prop := w_R_at xs L (0 : Int32) (fun r_1 => w_R_some r_1 (4 : Int32) (fun r_3 => ∀ x2_5, x2_5 = ((3 : Int32) + r_3) → ∃ nn, nn ≤ 7 ∧ wl_R_makes_14 xs L Q nn x2_5 (0 : Int32) u))
set_option maxHeartbeats 4000000 in
set_option maxRecDepth 100000 in
theorem c_L_makes (l : Launch) (hstk : l.stackTraces = false) (g : GE) (u : MU) (W : MU × ((Nat → Int64) × (Nat → UInt64))) {xs : Nat → Int32} {L : Nat} (hxs : g.2.2.2.2.2.1.2.2 = xs) (hLL : g.2.2.2.2.2.1.2.1 = L) {Q : Int32 → MU → Prop} (h : w_R_makes xs L u Q) : Met l yL_makes (.code yL_makes cL_makes 5 (Option.some Jvm.ClassFile.FieldType.boolean) :: TB) rm_L_makes (zPc g (u, W) [.ref (g.2.2.1 0), .ref g.2.2.2.2.2.1.1]) (zQi g (zPx W Q)) 38 228 (zA g) := by
  unfold w_R_makes at h
  refine zMet (own := RL) [(0, .ref (g.2.2.1 0)), (1, .ref g.2.2.2.2.2.1.1)] (by decide +kernel) rfl (Nat.le_of_ble_eq_true rfl) rfl (fun p e s m args below meth c C hr => ?_)
  refine zm_iconst (v := 3) C dL_makes_0 (by decide) ?_
  refine zm_aload_n C dL_makes_1 rfl 1 rfl ?_
  refine zm_iconst (v := 0) C dL_makes_2 (by decide) ?_
  refine zm_ci (zr_S (As := [.ref g.2.2.2.2.2.1.1, .int (0 : Int32)]) (rest := [.int (3 : Int32)]) C (c_L_at l _ (u, W) hxs hLL (0 : Int32) h) wd_332 wd_333 wd_0 wd_334 hy_L_at rfl rfl ⟨by decide, by decide⟩ ⟨(show 0 + 0 ≤ 38 by omega), (show 0 + 0 ≤ 228 by omega)⟩ rfl rfl (Nat.le_of_ble_eq_true rfl) dL_makes_3) (fun r_1 M1 hq => ?_)
  obtain ⟨rfl, h⟩ := hq
  refine zm_iconst (v := 4) C dL_makes_6 (by decide) ?_
  refine zm_ci (zr_S (As := [.int r_1, .int (4 : Int32)]) (rest := [.int (3 : Int32)]) C (c_L_some l _ (u, W) r_1 (4 : Int32) h) wd_894 wd_895 wd_0 wd_896 hy_L_some rfl rfl ⟨by decide, by decide⟩ ⟨(show 0 + 0 ≤ 38 by omega), (show 0 + 0 ≤ 228 by omega)⟩ rfl rfl (Nat.le_of_ble_eq_true rfl) dL_makes_7) (fun r_3 M1 hq => ?_)
  obtain ⟨rfl, h⟩ := hq
  refine zm_iadd C dL_makes_10 ?_
  refine zm_nmI (fun x2_5 hx2_5 => ?_)
  have h := h x2_5 hx2_5
  refine zm_istore_n (lv' := [(2, .int x2_5), (0, .ref (g.2.2.1 0)), (1, .ref g.2.2.2.2.2.1.1)]) C dL_makes_11 rfl (by decide) rfl ?_
  refine zm_iconst (v := 0) C dL_makes_12 (by decide) ?_
  refine zm_istore_n (lv' := [(3, .int (0 : Int32)), (2, .int x2_5), (0, .ref (g.2.2.1 0)), (1, .ref g.2.2.2.2.2.1.1)]) C dL_makes_13 rfl (by decide) rfl ?_
  obtain ⟨nn, hnn, h⟩ := h
  exact zm_sub [2, 3, 1, 0] rfl (vl_R_makes_14 hxs hLL C hr hstk  nn _ _ _ _ _ (by omega) (by omega) h)
