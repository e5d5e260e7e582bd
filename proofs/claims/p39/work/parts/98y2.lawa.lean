theorem wd_306 : (Jvm.Cond.methodLink "FoxBurrowsLaw" (294 : Nat) ({ cls := "FoxBurrows", name := "save", desc := "()I" } : Jvm.MethodName)) ∈ TB := zTB 306 (by decide +kernel) (by decide +kernel)
theorem wd_307 : (Jvm.Cond.instanceMethod ({ cls := "FoxBurrows", name := "save", desc := "()I" } : Jvm.MethodName)) ∈ TB := zTB 307 (by decide +kernel) (by decide +kernel)
theorem wd_308 : (Jvm.Cond.selects "FoxBurrows" ({ cls := "FoxBurrows", name := "save", desc := "()I" } : Jvm.MethodName) ({ cls := "FoxBurrows", name := "save", desc := "()I" } : Jvm.MethodName)) ∈ TB := zTB 308 (by decide +kernel) (by decide +kernel)
theorem wd_309 : (Jvm.Cond.code ({ cls := "FoxBurrows", name := "save", desc := "()I" } : Jvm.MethodName) prog_1_method_36_code (1 : Nat) (Option.some Jvm.ClassFile.FieldType.int)) ∈ TB := zTB 309 (by decide +kernel) (by decide +kernel)
theorem wd_891 : (Jvm.Cond.methodLink "FoxBurrowsLaw" (297 : Nat) ({ cls := "FoxBurrowsLaw", name := "makes", desc := "(LFoxBurrows;[I)Z" } : Jvm.MethodName)) ∈ TB := zTB 891 (by decide +kernel) (by decide +kernel)
theorem wd_892 : (Jvm.Cond.static ({ cls := "FoxBurrowsLaw", name := "makes", desc := "(LFoxBurrows;[I)Z" } : Jvm.MethodName)) ∈ TB := zTB 892 (by decide +kernel) (by decide +kernel)
theorem wd_893 : (Jvm.Cond.code ({ cls := "FoxBurrowsLaw", name := "makes", desc := "(LFoxBurrows;[I)Z" } : Jvm.MethodName) method_40_code (5 : Nat) (Option.some Jvm.ClassFile.FieldType.boolean)) ∈ TB := zTB 893 (by decide +kernel) (by decide +kernel)
theorem wd_1390 : (Jvm.Cond.methodLink "FoxBurrowsLaw" (301 : Nat) ({ cls := "FoxBurrowsLaw", name := "refused", desc := "(LFoxBurrows;)Z" } : Jvm.MethodName)) ∈ TB := zTB 1390 (by decide +kernel) (by decide +kernel)
theorem wd_1391 : (Jvm.Cond.static ({ cls := "FoxBurrowsLaw", name := "refused", desc := "(LFoxBurrows;)Z" } : Jvm.MethodName)) ∈ TB := zTB 1391 (by decide +kernel) (by decide +kernel)
set_option maxRecDepth 1000000 in
theorem wd_1392 : (Jvm.Cond.code ({ cls := "FoxBurrowsLaw", name := "refused", desc := "(LFoxBurrows;)Z" } : Jvm.MethodName) method_43_code (6 : Nat) (Option.some Jvm.ClassFile.FieldType.boolean)) ∈ TB := zTB 1392 rfl (by decide +kernel)
theorem hz_L_makes : (yL_makes.cls ≠ "java/lang/invoke/MethodHandle" ∧ yL_makes.cls ≠ "java/lang/invoke/VarHandle" ∧ (parseMethodDescriptor yL_makes.desc).map (fun d => d.parameters.length) = some 2) := ⟨by decide +kernel, by decide +kernel, by decide +kernel⟩
theorem hy_L_makes : yL_makes.cls = RL ∧ (yL_makes.cls ≠ "java/lang/invoke/MethodHandle" ∧ yL_makes.cls ≠ "java/lang/invoke/VarHandle" ∧ (parseMethodDescriptor yL_makes.desc).map (fun d => d.parameters.length) = some 2) := ⟨rfl, hz_L_makes⟩
theorem hz_L_refused : (yL_refused.cls ≠ "java/lang/invoke/MethodHandle" ∧ yL_refused.cls ≠ "java/lang/invoke/VarHandle" ∧ (parseMethodDescriptor yL_refused.desc).map (fun d => d.parameters.length) = some 1) := ⟨by decide +kernel, by decide +kernel, by decide +kernel⟩
theorem hy_L_refused : yL_refused.cls = RL ∧ (yL_refused.cls ≠ "java/lang/invoke/MethodHandle" ∧ yL_refused.cls ≠ "java/lang/invoke/VarHandle" ∧ (parseMethodDescriptor yL_refused.desc).map (fun d => d.parameters.length) = some 1) := ⟨rfl, hz_L_refused⟩
theorem hz_X9_save : (yX9_save.cls ≠ "java/lang/invoke/MethodHandle" ∧ yX9_save.cls ≠ "java/lang/invoke/VarHandle" ∧ (parseMethodDescriptor yX9_save.desc).map (fun d => d.parameters.length) = some 0) := ⟨by decide +kernel, by decide +kernel, by decide +kernel⟩
theorem hy_X9_save : yX9_save.cls = RX9 ∧ (yX9_save.cls ≠ "java/lang/invoke/MethodHandle" ∧ yX9_save.cls ≠ "java/lang/invoke/VarHandle" ∧ (parseMethodDescriptor yX9_save.desc).map (fun d => d.parameters.length) = some 0) := ⟨rfl, hz_X9_save⟩
def wb_R_lawa_466 (xs : Nat → Int32) (L : Nat) (Q : Prop) (u : MU) : Prop := w_R_makes xs L  u (fun r_1 u_2 => ((¬ r_1 = 0) → w_R_asks  u_2 (fun r_4 u_5 => w_R_asks  u_5 (fun r_6 u_7 => ((¬ (lg_cmp r_6 r_4) = 0) → False) ∧ (((lg_cmp r_6 r_4) = 0) → w_R_refused  u_7 (fun r_9 u_10 => ((¬ r_9 = 0) → w_X9_save  u_10 (fun r_12 u_13 => w_R_account (0 : Int32) u_13 (fun r_14 u_15 => ((¬ r_12 = r_14) → False) ∧ ((r_12 = r_14) → w_R_asks  u_15 (fun r_17 u_18 => (((lg_cmp r_17 r_4) = 0) → wb_R_lawb_532 xs L Q r_4 r_12 u_18 (fun _ => 0)) ∧ ((¬ (lg_cmp r_17 r_4) = 0) → False)))))) ∧ ((r_9 = 0) → False)))))) ∧ ((r_1 = 0) → False))
set_option maxHeartbeats 4000000 in
set_option maxRecDepth 100000 in
theorem vb_R_lawa_466 {p : Program} {l : Launch} {e : Env} {s : State} {m : MethodId} {args : Array Value} {below : List Frame} {meth : Method} {c : Code} {g : GE} {W : MU × ((Nat → Int64) × (Nat → UInt64))} {Qz : State → Prop} {Q : Prop} {xs : Nat → Int32} {L : Nat} (hxs : g.2.2.2.2.2.1.2.2 = xs) (hLL : g.2.2.2.2.2.1.2.1 = L) (hstk : l.stackTraces = false) (C : zCx p l s m args meth c g RL cL_law 11) (hx0 : g.2.2.2.2.1 = []) (hend : Q → ∀ (aw : Nat) (u : MU) (f : Nat → Int64), WM p l e room_1 s m args below meth c (gW g aw f) 11 600312 7292578 Qz 716 [] [.int 1] (u, W)) (u : MU) (cz sz : Nat) (hz : cz + 26531 + 0 ≤ 600312) (hs : sz + 6 * (26531 + 0) ≤ 7292578) (h : wb_R_lawa_466 xs L Q u) : WM p l e room_1 s m args below meth c g 11 cz sz Qz 466 [(0, .ref g.2.2.2.2.2.1.1), (2, .ref (g.2.2.1 0))] [] (u, W) := by
  unfold wb_R_lawa_466 at h
  refine zm_aload_n C dL_law_466 rfl 1 rfl ?_
  refine zm_aload_n C dL_law_467 rfl 0 rfl ?_
  refine zm_ci (zr_S (As := [.ref (g.2.2.1 0), .ref g.2.2.2.2.2.1.1]) (rest := []) C (c_L_makes l hstk _ u W hxs hLL  h) wd_891 wd_892 wd_0 wd_893 hy_L_makes rfl rfl ⟨by decide, by decide⟩ ⟨(show cz + 38 ≤ 600312 by omega), (show sz + 228 ≤ 7292578 by omega)⟩ rfl rfl (Nat.le_of_ble_eq_true rfl) dL_law_468) (fun r_1 M1 hq => ?_)
  obtain ⟨u_2, rfl, h⟩ := hq
  refine zm_if_ne (tgt := 476) C dL_law_471 (by decide) (fun hc_3 => ?_) (fun hc_3 => ?_)
  · have h := h.1 hc_3
    refine zm_aload_n C dL_law_476 rfl 1 rfl ?_
    refine zm_cl (zr_S (As := [.ref (g.2.2.1 0)]) (rest := []) C (c_L_asks l hstk _ u_2 W  h) wd_904 wd_905 wd_0 wd_906 hy_L_asks rfl rfl ⟨by decide, by decide⟩ ⟨(show (cz + 38) + 687 ≤ 600312 by omega), (show (sz + 228) + 4122 ≤ 7292578 by omega)⟩ rfl rfl (Nat.le_of_ble_eq_true rfl) dL_law_477) (fun r_4 M1 hq => ?_)
    obtain ⟨u_5, rfl, h⟩ := hq
    refine zm_lstore_n (lv' := [(3, .long r_4), (0, .ref g.2.2.2.2.2.1.1), (2, .ref (g.2.2.1 0))]) C dL_law_480 rfl (by decide) rfl ?_
    refine zm_aload_n C dL_law_481 rfl 2 rfl ?_
    refine zm_cl (zr_S (As := [.ref (g.2.2.1 0)]) (rest := []) C (c_L_asks l hstk _ u_5 W  h) wd_904 wd_905 wd_0 wd_906 hy_L_asks rfl rfl ⟨by decide, by decide⟩ ⟨(show (cz + 725) + 687 ≤ 600312 by omega), (show (sz + 4350) + 4122 ≤ 7292578 by omega)⟩ rfl rfl (Nat.le_of_ble_eq_true rfl) dL_law_482) (fun r_6 M1 hq => ?_)
    obtain ⟨u_7, rfl, h⟩ := hq
    refine zm_lload_n C dL_law_485 rfl 0 rfl ?_
    refine zm_lcmp C dL_law_486 ?_
    refine zm_if_ne (tgt := 497) C dL_law_487 (by decide) (fun hc_8 => ?_) (fun hc_8 => ?_)
    · have h := h.1 hc_8
      refine zm_iconst (v := 0) C dL_law_497 (by decide) ?_
      exact h.elim
    · have h := h.2 hc_8
      refine zm_aload_n C dL_law_490 rfl 2 rfl ?_
      refine zm_ci (zr_S (As := [.ref (g.2.2.1 0)]) (rest := []) C (c_L_refused l hstk _ u_7 W  h) wd_1390 wd_1391 wd_0 wd_1392 hy_L_refused rfl rfl ⟨by decide, by decide⟩ ⟨(show (cz + 1412) + 1702 ≤ 600312 by omega), (show (sz + 8472) + 10212 ≤ 7292578 by omega)⟩ rfl rfl (Nat.le_of_ble_eq_true rfl) dL_law_491) (fun r_9 M1 hq => ?_)
      obtain ⟨u_10, rfl, h⟩ := hq
      refine zm_if_ne (tgt := 499) C dL_law_494 (by decide) (fun hc_11 => ?_) (fun hc_11 => ?_)
      · have h := h.1 hc_11
        refine zm_aload_n C dL_law_499 rfl 2 rfl ?_
        refine zm_ci (zr_V (As := []) (rest := []) C (c_X9_save l _ u_10 W  h) wd_306 wd_307 wd_308 wd_1 wd_309 hy_X9_save rfl rfl ⟨by decide, by decide⟩ ⟨(show (cz + 3114) + 0 ≤ 600312 by omega), (show (sz + 18684) + 0 ≤ 7292578 by omega)⟩ (ci := 9) (by decide) (zCell_k kd_0) rfl rfl rfl rfl (Nat.le_of_ble_eq_true rfl) dL_law_500) (fun r_12 M1 hq => ?_)
        obtain ⟨u_13, rfl, h⟩ := hq
        refine zm_istore (lv' := [(5, .int r_12), (3, .long r_4), (0, .ref g.2.2.2.2.2.1.1), (2, .ref (g.2.2.1 0))]) C dL_law_503 (by decide) rfl ?_
        refine zm_iload C dL_law_505 0 rfl ?_
        refine zm_aload_n C dL_law_507 rfl 3 rfl ?_
        refine zm_iconst (v := 0) C dL_law_508 (by decide) ?_
        refine zm_ci (zr_SW (As := [.ref (g.2.2.1 0), .int (0 : Int32)]) (rest := [.int r_12]) C (c_L_account l hstk _ u_13 W (0 : Int32) h) wd_823 wd_824 wd_0 wd_825 hz_L_account rfl rfl ⟨by decide, by decide⟩ ⟨(show (cz + 3114) + 1 ≤ 600312 by omega), (show (sz + 18684) + 6 ≤ 7292578 by omega)⟩ rfl rfl (Nat.le_of_ble_eq_true rfl) dL_law_509) (fun r_14 M1 hq => ?_)
        obtain ⟨u_15, rfl, h⟩ := hq
        refine zm_icmp_ne (tgt := 524) C dL_law_512 (by decide) (fun hc_16 => ?_) (fun hc_16 => ?_)
        · have h := h.1 hc_16
          refine zm_iconst (v := 0) C dL_law_524 (by decide) ?_
          exact h.elim
        · have h := h.2 hc_16
          refine zm_aload_n C dL_law_515 rfl 3 rfl ?_
          refine zm_cl (zr_S (As := [.ref (g.2.2.1 0)]) (rest := []) C (c_L_asks l hstk _ u_15 W  h) wd_904 wd_905 wd_0 wd_906 hy_L_asks rfl rfl ⟨by decide, by decide⟩ ⟨(show (cz + 3115) + 687 ≤ 600312 by omega), (show (sz + 18690) + 4122 ≤ 7292578 by omega)⟩ rfl rfl (Nat.le_of_ble_eq_true rfl) dL_law_516) (fun r_17 M1 hq => ?_)
          obtain ⟨u_18, rfl, h⟩ := hq
          refine zm_lload_n C dL_law_519 rfl 1 rfl ?_
          refine zm_lcmp C dL_law_520 ?_
          refine zm_if_eq (tgt := 526) C dL_law_521 (by decide) (fun hc_19 => ?_) (fun hc_19 => ?_)
          · have h := h.1 hc_19
            refine zm_bipush (v := 9) C dL_law_526 (by decide) ?_
            refine zw_newL C hx0 wd_1415 (show (cz + 3802) + 1 ≤ 600312 by omega) (show (sz + 22812) + 9 ≤ 7292578 by omega) dL_law_528 (fun aw hC => ?_)
            refine zm_widen (k1 := (cz + 3804)) (n1 := (sz + 22824)) (by omega) (by omega) ?_
            refine zm_astore (lv' := [(6, .ref aw), (5, .int r_12), (3, .long r_4), (0, .ref g.2.2.2.2.2.1.1), (2, .ref (g.2.2.1 0))]) (hC _) dL_law_530 (by decide) rfl ?_
            exact zm_sub [3, 4, 2, 1, 0] rfl (vb_R_lawb_532 hxs hLL hstk hC (fun q u f => hend q aw u f) _ _ _ _ _ _ (by omega) (by omega) h)
          · have h := h.2 hc_19
            refine zm_iconst (v := 0) C dL_law_524 (by decide) ?_
            exact h.elim
      · have h := h.2 hc_11
        refine zm_iconst (v := 0) C dL_law_497 (by decide) ?_
        exact h.elim
  · have h := h.2 hc_3
    refine zm_iconst (v := 0) C dL_law_474 (by decide) ?_
    exact h.elim
