abbrev rm_X10_save : Room := { frames := 0, cells := 0, slots := 0, locals := 0 }
def wl_X10_save_12 (Q : Int32 → MU → Prop) : Nat → Int32 → MU → Prop
  | 0, _, _ => False
  | n + 1, x1, u => (((119 : Int32) ≤ x1) → vp_in (0 : Int32) 119 ∧ (Q (u 118 ((0 : Int32)).toNatClampNeg) u)) ∧ ((¬ (119 : Int32) ≤ x1) → vp_in x1 119 ∧ (vp_in x1 119 ∧ (∀ u_5, u_5 = u2 u 121 (x1).toNatClampNeg (u 118 (x1).toNatClampNeg) → ∀ x1_6, x1_6 = x1 + (1 : Int32) → wl_X10_save_12   Q n x1_6 u_5)))
set_option maxHeartbeats 4000000 in
set_option maxRecDepth 100000 in
theorem vl_X10_save_12 {p : Program} {l : Launch} {e : Env} {s : State} {m : MethodId} {args : Array Value} {below : List Frame} {meth : Method} {c : Code} {g : GE} {U : MU} {W : (Nat → Int64) × (Nat → UInt64)} {Q : Int32 → MU → Prop} (C : zCx p l s m args meth c g RX10 cX10_save 2) (hr : meth.sig.returnType = (Option.some Jvm.ClassFile.FieldType.int)) : ∀ (n : Nat) (x1 : Int32) (u : MU) , wl_X10_save_12   Q n x1 u → WM p l e rm_X10_save s m args below meth c g 2 0 0 (MQ below (zQi g (zPm U W Q)) args s 0 0 (zA g)) 12 [(0, .ref (g.2.2.1 117)), (1, .int x1)] [] (U, u, W) := by
  intro n
  induction n with
  | zero => intro _ _ h; exact h.elim
  | succ n ih =>
    intro x1 u h
    unfold wl_X10_save_12 at h
    refine zm_iload_n C dX10_save_12 rfl 1 rfl ?_
    refine zm_bipush (v := 119) C dX10_save_13 (by decide) ?_
    refine zm_icmp_ge (tgt := 36) C dX10_save_15 (by decide) (fun hc_1 => ?_) (fun hc_1 => ?_)
    · have h := h.1 hc_1
      refine zm_aload_n C dX10_save_36 rfl 0 rfl ?_
      refine gf_RX10_9 (k1 := 118) C kd_117 rfl dX10_save_37 ?_
      refine zm_iconst (v := 0) C dX10_save_40 (by decide) ?_
      obtain ⟨hg_2, h⟩ := h
      refine zq_ld_m C kd_118 ln_118 hg_2 dX10_save_41 ?_
      exact zm_iret C hr dX10_save_42 ⟨_, rfl, h⟩
    · have h := h.2 hc_1
      refine zm_aload_n C dX10_save_18 rfl 0 rfl ?_
      refine gf_RX10_19 (k1 := 121) C kd_117 rfl dX10_save_19 ?_
      refine zm_iload_n C dX10_save_22 rfl 1 rfl ?_
      refine zm_aload_n C dX10_save_23 rfl 0 rfl ?_
      refine gf_RX10_9 (k1 := 118) C kd_117 rfl dX10_save_24 ?_
      refine zm_iload_n C dX10_save_27 rfl 1 rfl ?_
      obtain ⟨hg_3, h⟩ := h
      refine zq_ld_m C kd_118 ln_118 hg_3 dX10_save_28 ?_
      obtain ⟨hg_4, h⟩ := h
      refine zq_st_m C kd_121 ln_121 hg_4 dX10_save_29 (fun u_5 hu_5 => ?_)
      have h := h u_5 hu_5
      obtain ⟨x1_6, hx1_6⟩ : ∃ z, z = x1 + (1 : Int32) := ⟨_, rfl⟩
      have h := h x1_6 hx1_6
      refine zm_iinc (v := x1_6) (lv' := [(1, .int x1_6), (0, .ref (g.2.2.1 117))]) C dX10_save_30 1 rfl (by rw [hx1_6]; rfl) (by decide) rfl ?_
      refine zm_goto (tgt := 12) C dX10_save_33 (by decide) ?_
      exact zm_sub [1, 0] rfl (ih _ _ h)
def w_X10_save (u : MU) (Q : Int32 → MU → Prop) : Prop := (∀ u_1, u_1 = u2 u 117 17 (0 : Int32) → (∀ u_2, u_2 = u2 u_1 117 5 (1 : Int32) → ∃ nn, wl_X10_save_12   Q nn (0 : Int32) u_2))
set_option maxHeartbeats 4000000 in
set_option maxRecDepth 100000 in
theorem c_X10_save (l : Launch) (g : GE) (U : MU) (u : MU) (W : (Nat → Int64) × (Nat → UInt64)) {Q : Int32 → MU → Prop} (h : w_X10_save u Q) : Met l yX10_save (.code yX10_save cX10_save 2 (Option.some Jvm.ClassFile.FieldType.int) :: TB) rm_X10_save (zPc g (U, u, W) [.ref (g.2.2.1 117)]) (zQi g (zPm U W Q)) 0 0 (zA g) := by
  unfold w_X10_save at h
  refine zMet (own := RX10) [(0, .ref (g.2.2.1 117))] (by decide +kernel) rfl (Nat.le_of_ble_eq_true rfl) rfl (fun p e s m args below meth c C hr => ?_)
  refine zm_aload_n C dX10_save_0 rfl 0 rfl ?_
  refine zm_iconst (v := 0) C dX10_save_1 (by decide) ?_
  refine pf_RX10_54 C kd_117  dX10_save_2 (fun u_1 hu_1 => ?_)
  have h := h u_1 hu_1
  refine zm_aload_n C dX10_save_5 rfl 0 rfl ?_
  refine zm_iconst (v := 1) C dX10_save_6 (by decide) ?_
  refine pf_RX10_235 C kd_117 (by decide) (by decide) dX10_save_7 (fun u_2 hu_2 => ?_)
  have h := h u_2 hu_2
  refine zm_iconst (v := 0) C dX10_save_10 (by decide) ?_
  refine zm_istore_n (lv' := [(1, .int (0 : Int32)), (0, .ref (g.2.2.1 117))]) C dX10_save_11 rfl (by decide) rfl ?_
  obtain ⟨nn, h⟩ := h
  exact zm_sub [1, 0] rfl (vl_X10_save_12 C hr  nn _ _ h)
abbrev rm_X10_restore : Room := { frames := 1, cells := 0, slots := 0, locals := 21 }
def wl_X10_restore_25 (Q : Int32 → MU → Prop) : Nat → Int32 → MU → Prop
  | 0, _, _ => False
  | n + 1, x1, u => (((119 : Int32) ≤ x1) → (∀ u_2, u_2 = u2 u 117 3 (0 : Int32) → vp_in (0 : Int32) 119 ∧ (Q (u_2 118 ((0 : Int32)).toNatClampNeg) u_2))) ∧ ((¬ (119 : Int32) ≤ x1) → vp_in x1 119 ∧ (vp_in x1 119 ∧ (∀ u_6, u_6 = u2 u 118 (x1).toNatClampNeg (u 121 (x1).toNatClampNeg) → ∀ x1_7, x1_7 = x1 + (1 : Int32) → wl_X10_restore_25   Q n x1_7 u_6)))
set_option maxHeartbeats 4000000 in
set_option maxRecDepth 100000 in
theorem vl_X10_restore_25 {p : Program} {l : Launch} {e : Env} {s : State} {m : MethodId} {args : Array Value} {below : List Frame} {meth : Method} {c : Code} {g : GE} {U : MU} {W : (Nat → Int64) × (Nat → UInt64)} {Q : Int32 → MU → Prop} (C : zCx p l s m args meth c g RX10 cX10_restore 2) (hr : meth.sig.returnType = (Option.some Jvm.ClassFile.FieldType.int)) : ∀ (n : Nat) (x1 : Int32) (u : MU) , wl_X10_restore_25   Q n x1 u → WM p l e rm_X10_restore s m args below meth c g 2 0 0 (MQ below (zQi g (zPm U W Q)) args s 0 0 (zA g)) 25 [(0, .ref (g.2.2.1 117)), (1, .int x1)] [] (U, u, W) := by
  intro n
  induction n with
  | zero => intro _ _ h; exact h.elim
  | succ n ih =>
    intro x1 u h
    unfold wl_X10_restore_25 at h
    refine zm_iload_n C dX10_restore_25 rfl 1 rfl ?_
    refine zm_bipush (v := 119) C dX10_restore_26 (by decide) ?_
    refine zm_icmp_ge (tgt := 49) C dX10_restore_28 (by decide) (fun hc_1 => ?_) (fun hc_1 => ?_)
    · have h := h.1 hc_1
      refine zm_aload_n C dX10_restore_49 rfl 0 rfl ?_
      refine zm_iconst (v := 0) C dX10_restore_50 (by decide) ?_
      refine pf_RX10_65 C kd_117  dX10_restore_51 (fun u_2 hu_2 => ?_)
      have h := h u_2 hu_2
      refine zm_aload_n C dX10_restore_54 rfl 0 rfl ?_
      refine gf_RX10_9 (k1 := 118) C kd_117 rfl dX10_restore_55 ?_
      refine zm_iconst (v := 0) C dX10_restore_58 (by decide) ?_
      obtain ⟨hg_3, h⟩ := h
      refine zq_ld_m C kd_118 ln_118 hg_3 dX10_restore_59 ?_
      exact zm_iret C hr dX10_restore_60 ⟨_, rfl, h⟩
    · have h := h.2 hc_1
      refine zm_aload_n C dX10_restore_31 rfl 0 rfl ?_
      refine gf_RX10_9 (k1 := 118) C kd_117 rfl dX10_restore_32 ?_
      refine zm_iload_n C dX10_restore_35 rfl 1 rfl ?_
      refine zm_aload_n C dX10_restore_36 rfl 0 rfl ?_
      refine gf_RX10_19 (k1 := 121) C kd_117 rfl dX10_restore_37 ?_
      refine zm_iload_n C dX10_restore_40 rfl 1 rfl ?_
      obtain ⟨hg_4, h⟩ := h
      refine zq_ld_m C kd_121 ln_121 hg_4 dX10_restore_41 ?_
      obtain ⟨hg_5, h⟩ := h
      refine zq_st_m C kd_118 ln_118 hg_5 dX10_restore_42 (fun u_6 hu_6 => ?_)
      have h := h u_6 hu_6
      obtain ⟨x1_7, hx1_7⟩ : ∃ z, z = x1 + (1 : Int32) := ⟨_, rfl⟩
      have h := h x1_7 hx1_7
      refine zm_iinc (v := x1_7) (lv' := [(1, .int x1_7), (0, .ref (g.2.2.1 117))]) C dX10_restore_43 1 rfl (by rw [hx1_7]; rfl) (by decide) rfl ?_
      refine zm_goto (tgt := 25) C dX10_restore_46 (by decide) ?_
      exact zm_sub [1, 0] rfl (ih _ _ h)
def w_X10_restore (u : MU) (Q : Int32 → MU → Prop) : Prop := (∀ u_1, u_1 = u2 u 117 17 (0 : Int32) → ((¬ (u_1 117 5) = 0) → (∀ u_3, u_3 = u2 u_1 117 22 (0 : Int32) → ∃ nn, wl_X10_restore_25   Q nn (0 : Int32) u_3)) ∧ (((u_1 117 5) = 0) → w_X10_raises (1 : Int32) u_1 (fun r_4 u_5 => Q r_4 u_5)))
set_option maxHeartbeats 4000000 in
set_option maxRecDepth 100000 in
theorem c_X10_restore (l : Launch) (g : GE) (U : MU) (u : MU) (W : (Nat → Int64) × (Nat → UInt64)) {Q : Int32 → MU → Prop} (h : w_X10_restore u Q) : Met l yX10_restore (.code yX10_restore cX10_restore 2 (Option.some Jvm.ClassFile.FieldType.int) :: TB) rm_X10_restore (zPc g (U, u, W) [.ref (g.2.2.1 117)]) (zQi g (zPm U W Q)) 0 0 (zA g) := by
  unfold w_X10_restore at h
  refine zMet (own := RX10) [(0, .ref (g.2.2.1 117))] (by decide +kernel) rfl (Nat.le_of_ble_eq_true rfl) rfl (fun p e s m args below meth c C hr => ?_)
  refine zm_aload_n C dX10_restore_0 rfl 0 rfl ?_
  refine zm_iconst (v := 0) C dX10_restore_1 (by decide) ?_
  refine pf_RX10_54 C kd_117  dX10_restore_2 (fun u_1 hu_1 => ?_)
  have h := h u_1 hu_1
  refine zm_aload_n C dX10_restore_5 rfl 0 rfl ?_
  refine gf_RX10_235 C kd_117 dX10_restore_6 ?_
  refine zm_if_ne (tgt := 18) C dX10_restore_9 (by decide) (fun hc_2 => ?_) (fun hc_2 => ?_)
  · have h := h.1 hc_2
    refine zm_aload_n C dX10_restore_18 rfl 0 rfl ?_
    refine zm_iconst (v := 0) C dX10_restore_19 (by decide) ?_
    refine pf_RX10_57 C kd_117 (by decide) (by decide) dX10_restore_20 (fun u_3 hu_3 => ?_)
    have h := h u_3 hu_3
    refine zm_iconst (v := 0) C dX10_restore_23 (by decide) ?_
    refine zm_istore_n (lv' := [(1, .int (0 : Int32)), (0, .ref (g.2.2.1 117))]) C dX10_restore_24 rfl (by decide) rfl ?_
    obtain ⟨nn, h⟩ := h
    exact zm_sub [1, 0] rfl (vl_X10_restore_25 C hr  nn _ _ h)
  · have h := h.2 hc_2
    refine zm_aload_n C dX10_restore_12 rfl 0 rfl ?_
    refine zm_iconst (v := 1) C dX10_restore_13 (by decide) ?_
    refine zm_ci (zr_V (As := [.int (1 : Int32)]) (rest := []) C (c_X10_raises l g U u_1 W (1 : Int32) h) wd_1204 wd_1206 wp_34 wd_11 wd_1207 hy_X10_raises rfl rfl ⟨by decide, by decide⟩ ⟨by decide, by decide⟩ (ci := 10) (by decide) (zCell_k kd_117) rfl rfl rfl rfl (Nat.le_of_ble_eq_true rfl) dX10_restore_14) (fun r_4 M1 hq => ?_)
    obtain ⟨u_5, rfl, h⟩ := hq
    exact zm_iret C hr dX10_restore_17 ⟨_, rfl, h⟩
