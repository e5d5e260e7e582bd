abbrev rm_X10_thrown : Room := { frames := 0, cells := 0, slots := 0, locals := 0 }
def w_X10_thrown (u : MU) (Q : Int32 → Prop) : Prop := Q (u 117 17)
set_option maxHeartbeats 4000000 in
set_option maxRecDepth 100000 in
theorem c_X10_thrown (l : Launch) (g : GE) (U : MU) (u : MU) (W : (Nat → Int64) × (Nat → UInt64)) {Q : Int32 → Prop} (h : w_X10_thrown u Q) : Met l yX10_thrown (.code yX10_thrown cX10_thrown 1 (Option.some Jvm.ClassFile.FieldType.int) :: TB) rm_X10_thrown (zPc g (U, u, W) [.ref (g.2.2.1 117)]) (zQi g (zP0 (U, u, W) Q)) 0 0 (zA g) := by
  unfold w_X10_thrown at h
  refine zMet (own := RX10) [(0, .ref (g.2.2.1 117))] (by decide +kernel) rfl (Nat.le_of_ble_eq_true rfl) rfl (fun p e s m args below meth c C hr => ?_)
  refine zm_aload_n C dX10_thrown_0 rfl 0 rfl ?_
  refine gf_RX10_54 C kd_117 dX10_thrown_1 ?_
  exact zm_iret C hr dX10_thrown_4 ⟨rfl, h⟩
abbrev rm_X10_raises : Room := { frames := 0, cells := 0, slots := 0, locals := 0 }
def w_X10_raises (x1 : Int32) (u : MU) (Q : Int32 → MU → Prop) : Prop := (∀ u_1, u_1 = u2 u 117 17 x1 → Q (0 : Int32) u_1)
set_option maxHeartbeats 4000000 in
set_option maxRecDepth 100000 in
theorem c_X10_raises (l : Launch) (g : GE) (U : MU) (u : MU) (W : (Nat → Int64) × (Nat → UInt64)) (x1 : Int32) {Q : Int32 → MU → Prop} (h : w_X10_raises x1 u Q) : Met l yX10_raises (.code yX10_raises cX10_raises 2 (Option.some Jvm.ClassFile.FieldType.int) :: TB) rm_X10_raises (zPc g (U, u, W) [.ref (g.2.2.1 117), .int x1]) (zQi g (zPm U W Q)) 0 0 (zA g) := by
  unfold w_X10_raises at h
  refine zMet (own := RX10) [(0, .ref (g.2.2.1 117)), (1, .int x1)] (by decide +kernel) rfl (Nat.le_of_ble_eq_true rfl) rfl (fun p e s m args below meth c C hr => ?_)
  refine zm_aload_n C dX10_raises_0 rfl 0 rfl ?_
  refine zm_iload_n C dX10_raises_1 rfl 1 rfl ?_
  refine pf_RX10_54 C kd_117  dX10_raises_2 (fun u_1 hu_1 => ?_)
  have h := h u_1 hu_1
  refine zm_iconst (v := 0) C dX10_raises_5 (by decide) ?_
  exact zm_iret C hr dX10_raises_6 ⟨_, rfl, h⟩
abbrev rm_X10_in : Room := { frames := 0, cells := 0, slots := 0, locals := 0 }
def w_X10_in (x0 : Int32) (x1 : Int32) (x2 : Int32) (Q : Int32 → Prop) : Prop := ((x0 < x1) → Q (0 : Int32)) ∧ ((¬ x0 < x1) → ((x2 < x0) → Q (0 : Int32)) ∧ ((¬ x2 < x0) → Q (1 : Int32)))
set_option maxHeartbeats 4000000 in
set_option maxRecDepth 100000 in
theorem c_X10_in (l : Launch) (g : GE) (M : Mem) (x0 : Int32) (x1 : Int32) (x2 : Int32) {Q : Int32 → Prop} (h : w_X10_in x0 x1 x2 Q) : Met l yX10_in (.code yX10_in cX10_in 3 (Option.some Jvm.ClassFile.FieldType.boolean) :: TB) rm_X10_in (zPc g M [.int x0, .int x1, .int x2]) (zQi g (zP0 M Q)) 0 0 (zA g) := by
  unfold w_X10_in at h
  refine zMet (own := RX10) [(0, .int x0), (1, .int x1), (2, .int x2)] (by decide +kernel) rfl (Nat.le_of_ble_eq_true rfl) rfl (fun p e s m args below meth c C hr => ?_)
  refine zm_iload_n C dX10_in_0 rfl 0 rfl ?_
  refine zm_iload_n C dX10_in_1 rfl 1 rfl ?_
  refine zm_icmp_lt (tgt := 14) C dX10_in_2 (by decide) (fun hc_1 => ?_) (fun hc_1 => ?_)
  · have h := h.1 hc_1
    refine zm_iconst (v := 0) C dX10_in_14 (by decide) ?_
    exact zm_zret (ty := .boolean) C hr (by decide) dX10_in_15 ⟨rfl, h⟩
  · have h := h.2 hc_1
    refine zm_iload_n C dX10_in_5 rfl 0 rfl ?_
    refine zm_iload_n C dX10_in_6 rfl 2 rfl ?_
    refine zm_icmp_gt (tgt := 14) C dX10_in_7 (by decide) (fun hc_2 => ?_) (fun hc_2 => ?_)
    · have h := h.1 hc_2
      refine zm_iconst (v := 0) C dX10_in_14 (by decide) ?_
      exact zm_zret (ty := .boolean) C hr (by decide) dX10_in_15 ⟨rfl, h⟩
    · have h := h.2 hc_2
      refine zm_iconst (v := 1) C dX10_in_10 (by decide) ?_
      refine zm_goto (tgt := 15) C dX10_in_11 (by decide) ?_
      exact zm_zret (ty := .boolean) C hr (by decide) dX10_in_15 ⟨rfl, h⟩
abbrev rm_X10_tries : Room := { frames := 0, cells := 0, slots := 0, locals := 0 }
def wl_X10_tries_12 (Q : MU → Prop) : Nat → Int32 → MU → Prop
  | 0, _, _ => False
  | n + 1, x1, u => (((119 : Int32) ≤ x1) → Q u) ∧ ((¬ (119 : Int32) ≤ x1) → vp_in x1 119 ∧ (vp_in x1 119 ∧ (∀ u_4, u_4 = u2 u 119 (x1).toNatClampNeg (u 118 (x1).toNatClampNeg) → ∀ x1_5, x1_5 = x1 + (1 : Int32) → wl_X10_tries_12   Q n x1_5 u_4)))
set_option maxHeartbeats 4000000 in
set_option maxRecDepth 100000 in
theorem vl_X10_tries_12 {p : Program} {l : Launch} {e : Env} {s : State} {m : MethodId} {args : Array Value} {below : List Frame} {meth : Method} {c : Code} {g : GE} {U : MU} {W : (Nat → Int64) × (Nat → UInt64)} {Q : MU → Prop} (C : zCx p l s m args meth c g RX10 cX10_tries 2) (hr : meth.sig.returnType = (Option.none : Option Jvm.ClassFile.FieldType)) : ∀ (n : Nat) (x1 : Int32) (u : MU) , wl_X10_tries_12   Q n x1 u → WM p l e rm_X10_tries s m args below meth c g 2 0 0 (MQ below (zQv g (zPmv U W Q)) args s 0 0 (zA g)) 12 [(0, .ref (g.2.2.1 117)), (1, .int x1)] [] (U, u, W) := by
  intro n
  induction n with
  | zero => intro _ _ h; exact h.elim
  | succ n ih =>
    intro x1 u h
    unfold wl_X10_tries_12 at h
    refine zm_iload_n C dX10_tries_12 rfl 1 rfl ?_
    refine zm_bipush (v := 119) C dX10_tries_13 (by decide) ?_
    refine zm_icmp_ge (tgt := 36) C dX10_tries_15 (by decide) (fun hc_1 => ?_) (fun hc_1 => ?_)
    · have h := h.1 hc_1
      exact zm_vret C hr dX10_tries_36 ⟨_, rfl, h⟩
    · have h := h.2 hc_1
      refine zm_aload_n C dX10_tries_18 rfl 0 rfl ?_
      refine gf_RX10_13 (k1 := 119) C kd_117 rfl dX10_tries_19 ?_
      refine zm_iload_n C dX10_tries_22 rfl 1 rfl ?_
      refine zm_aload_n C dX10_tries_23 rfl 0 rfl ?_
      refine gf_RX10_9 (k1 := 118) C kd_117 rfl dX10_tries_24 ?_
      refine zm_iload_n C dX10_tries_27 rfl 1 rfl ?_
      obtain ⟨hg_2, h⟩ := h
      refine zq_ld_m C kd_118 ln_118 hg_2 dX10_tries_28 ?_
      obtain ⟨hg_3, h⟩ := h
      refine zq_st_m C kd_119 ln_119 hg_3 dX10_tries_29 (fun u_4 hu_4 => ?_)
      have h := h u_4 hu_4
      obtain ⟨x1_5, hx1_5⟩ : ∃ z, z = x1 + (1 : Int32) := ⟨_, rfl⟩
      have h := h x1_5 hx1_5
      refine zm_iinc (v := x1_5) (lv' := [(1, .int x1_5), (0, .ref (g.2.2.1 117))]) C dX10_tries_30 1 rfl (by rw [hx1_5]; rfl) (by decide) rfl ?_
      refine zm_goto (tgt := 12) C dX10_tries_33 (by decide) ?_
      exact zm_sub [1, 0] rfl (ih _ _ h)
def w_X10_tries (u : MU) (Q : MU → Prop) : Prop := (∀ u_1, u_1 = u2 u 117 17 (0 : Int32) → (∀ u_2, u_2 = u2 u_1 117 22 (0 : Int32) → ∃ nn, wl_X10_tries_12   Q nn (0 : Int32) u_2))
set_option maxHeartbeats 4000000 in
set_option maxRecDepth 100000 in
theorem c_X10_tries (l : Launch) (g : GE) (U : MU) (u : MU) (W : (Nat → Int64) × (Nat → UInt64)) {Q : MU → Prop} (h : w_X10_tries u Q) : Met l yX10_tries (.code yX10_tries cX10_tries 2 (Option.none : Option Jvm.ClassFile.FieldType) :: TB) rm_X10_tries (zPc g (U, u, W) [.ref (g.2.2.1 117)]) (zQv g (zPmv U W Q)) 0 0 (zA g) := by
  unfold w_X10_tries at h
  refine zMet (own := RX10) [(0, .ref (g.2.2.1 117))] (by decide +kernel) rfl (Nat.le_of_ble_eq_true rfl) rfl (fun p e s m args below meth c C hr => ?_)
  refine zm_aload_n C dX10_tries_0 rfl 0 rfl ?_
  refine zm_iconst (v := 0) C dX10_tries_1 (by decide) ?_
  refine pf_RX10_54 C kd_117  dX10_tries_2 (fun u_1 hu_1 => ?_)
  have h := h u_1 hu_1
  refine zm_aload_n C dX10_tries_5 rfl 0 rfl ?_
  refine zm_iconst (v := 0) C dX10_tries_6 (by decide) ?_
  refine pf_RX10_57 C kd_117 (by decide) (by decide) dX10_tries_7 (fun u_2 hu_2 => ?_)
  have h := h u_2 hu_2
  refine zm_iconst (v := 0) C dX10_tries_10 (by decide) ?_
  refine zm_istore_n (lv' := [(1, .int (0 : Int32)), (0, .ref (g.2.2.1 117))]) C dX10_tries_11 rfl (by decide) rfl ?_
  obtain ⟨nn, h⟩ := h
  exact zm_sub [1, 0] rfl (vl_X10_tries_12 C hr  nn _ _ h)
abbrev rm_X10_keeps : Room := { frames := 1, cells := 0, slots := 0, locals := 21 }
def wl_X10_keeps_61 (Q : Int32 → MU → Prop) : Nat → Int32 → Int32 → MU → Prop
  | 0, _, _, _ => False
  | n + 1, x1, x2, u => (((119 : Int32) ≤ x2) → (∀ u_2, u_2 = u2 u 117 3 ((u 117 3) + (1 : Int32)) → Q x1 u_2)) ∧ ((¬ (119 : Int32) ≤ x2) → vp_in x2 119 ∧ (vp_in (((119 : Int32) * (u 117 3)) + x2) 952 ∧ (∀ u_5, u_5 = u2 u 120 ((((119 : Int32) * (u 117 3)) + x2)).toNatClampNeg (u 119 (x2).toNatClampNeg) → ∀ x2_6, x2_6 = x2 + (1 : Int32) → wl_X10_keeps_61   Q n x1 x2_6 u_5)))
set_option maxHeartbeats 4000000 in
set_option maxRecDepth 100000 in
theorem vl_X10_keeps_61 {p : Program} {l : Launch} {e : Env} {s : State} {m : MethodId} {args : Array Value} {below : List Frame} {meth : Method} {c : Code} {g : GE} {U : MU} {W : (Nat → Int64) × (Nat → UInt64)} {Q : Int32 → MU → Prop} (C : zCx p l s m args meth c g RX10 cX10_keeps 3) (hr : meth.sig.returnType = (Option.some Jvm.ClassFile.FieldType.int)) : ∀ (n : Nat) (x1 : Int32) (x2 : Int32) (u : MU) , wl_X10_keeps_61   Q n x1 x2 u → WM p l e rm_X10_keeps s m args below meth c g 3 0 0 (MQ below (zQi g (zPm U W Q)) args s 0 0 (zA g)) 61 [(0, .ref (g.2.2.1 117)), (1, .int x1), (2, .int x2)] [] (U, u, W) := by
  intro n
  induction n with
  | zero => intro _ _ _ h; exact h.elim
  | succ n ih =>
    intro x1 x2 u h
    unfold wl_X10_keeps_61 at h
    refine zm_iload_n C dX10_keeps_61 rfl 2 rfl ?_
    refine zm_bipush (v := 119) C dX10_keeps_62 (by decide) ?_
    refine zm_icmp_ge (tgt := 93) C dX10_keeps_64 (by decide) (fun hc_1 => ?_) (fun hc_1 => ?_)
    · have h := h.1 hc_1
      refine zm_aload_n C dX10_keeps_93 rfl 0 rfl ?_
      refine zm_dup C dX10_keeps_94 rfl ?_
      refine gf_RX10_65 C kd_117 dX10_keeps_95 ?_
      refine zm_iconst (v := 1) C dX10_keeps_98 (by decide) ?_
      refine zm_iadd C dX10_keeps_99 ?_
      refine pf_RX10_65 C kd_117  dX10_keeps_100 (fun u_2 hu_2 => ?_)
      have h := h u_2 hu_2
      refine zm_iload_n C dX10_keeps_103 rfl 1 rfl ?_
      exact zm_iret C hr dX10_keeps_104 ⟨_, rfl, h⟩
    · have h := h.2 hc_1
      refine zm_aload_n C dX10_keeps_67 rfl 0 rfl ?_
      refine gf_RX10_16 (k1 := 120) C kd_117 rfl dX10_keeps_68 ?_
      refine zm_bipush (v := 119) C dX10_keeps_71 (by decide) ?_
      refine zm_aload_n C dX10_keeps_73 rfl 0 rfl ?_
      refine gf_RX10_65 C kd_117 dX10_keeps_74 ?_
      refine zm_imul C dX10_keeps_77 ?_
      refine zm_iload_n C dX10_keeps_78 rfl 2 rfl ?_
      refine zm_iadd C dX10_keeps_79 ?_
      refine zm_aload_n C dX10_keeps_80 rfl 0 rfl ?_
      refine gf_RX10_13 (k1 := 119) C kd_117 rfl dX10_keeps_81 ?_
      refine zm_iload_n C dX10_keeps_84 rfl 2 rfl ?_
      obtain ⟨hg_3, h⟩ := h
      refine zq_ld_m C kd_119 ln_119 hg_3 dX10_keeps_85 ?_
      obtain ⟨hg_4, h⟩ := h
      refine zq_st_m C kd_120 ln_120 hg_4 dX10_keeps_86 (fun u_5 hu_5 => ?_)
      have h := h u_5 hu_5
      obtain ⟨x2_6, hx2_6⟩ : ∃ z, z = x2 + (1 : Int32) := ⟨_, rfl⟩
      have h := h x2_6 hx2_6
      refine zm_iinc (v := x2_6) (lv' := [(2, .int x2_6), (0, .ref (g.2.2.1 117)), (1, .int x1)]) C dX10_keeps_87 2 rfl (by rw [hx2_6]; rfl) (by decide) rfl ?_
      refine zm_goto (tgt := 61) C dX10_keeps_90 (by decide) ?_
      exact zm_sub [1, 2, 0] rfl (ih _ _ _ h)
def wb_X10_keeps_59 (Q : Int32 → MU → Prop) (x1 : Int32) (u : MU) : Prop := ∃ nn, wl_X10_keeps_61   Q nn x1 (0 : Int32) u
set_option maxHeartbeats 4000000 in
set_option maxRecDepth 100000 in
theorem vb_X10_keeps_59 {p : Program} {l : Launch} {e : Env} {s : State} {m : MethodId} {args : Array Value} {below : List Frame} {meth : Method} {c : Code} {g : GE} {U : MU} {W : (Nat → Int64) × (Nat → UInt64)} {Q : Int32 → MU → Prop} (C : zCx p l s m args meth c g RX10 cX10_keeps 3) (hr : meth.sig.returnType = (Option.some Jvm.ClassFile.FieldType.int)) (x1 : Int32) (u : MU) (h : wb_X10_keeps_59   Q x1 u) : WM p l e rm_X10_keeps s m args below meth c g 3 0 0 (MQ below (zQi g (zPm U W Q)) args s 0 0 (zA g)) 59 [(0, .ref (g.2.2.1 117)), (1, .int x1)] [] (U, u, W) := by
  unfold wb_X10_keeps_59 at h
  refine zm_iconst (v := 0) C dX10_keeps_59 (by decide) ?_
  refine zm_istore_n (lv' := [(2, .int (0 : Int32)), (0, .ref (g.2.2.1 117)), (1, .int x1)]) C dX10_keeps_60 rfl (by decide) rfl ?_
  obtain ⟨nn, h⟩ := h
  exact zm_sub [1, 2, 0] rfl (vl_X10_keeps_61 C hr  nn _ _ _ h)
def wl_X10_keeps_21 (Q : Int32 → MU → Prop) : Nat → Int32 → Int32 → MU → Prop
  | 0, _, _, _ => False
  | n + 1, x1, x2, u => (((833 : Int32) ≤ x2) → (∀ u_2, u_2 = u2 u 117 3 ((u 117 3) - (1 : Int32)) → wb_X10_keeps_59   Q x1 u_2)) ∧ ((¬ (833 : Int32) ≤ x2) → vp_in ((119 : Int32) + x2) 952 ∧ (vp_in x2 952 ∧ (∀ u_5, u_5 = u2 u 120 (x2).toNatClampNeg (u 120 (((119 : Int32) + x2)).toNatClampNeg) → ∀ x2_6, x2_6 = x2 + (1 : Int32) → wl_X10_keeps_21   Q n x1 x2_6 u_5)))
set_option maxHeartbeats 4000000 in
set_option maxRecDepth 100000 in
theorem vl_X10_keeps_21 {p : Program} {l : Launch} {e : Env} {s : State} {m : MethodId} {args : Array Value} {below : List Frame} {meth : Method} {c : Code} {g : GE} {U : MU} {W : (Nat → Int64) × (Nat → UInt64)} {Q : Int32 → MU → Prop} (C : zCx p l s m args meth c g RX10 cX10_keeps 3) (hr : meth.sig.returnType = (Option.some Jvm.ClassFile.FieldType.int)) : ∀ (n : Nat) (x1 : Int32) (x2 : Int32) (u : MU) , wl_X10_keeps_21   Q n x1 x2 u → WM p l e rm_X10_keeps s m args below meth c g 3 0 0 (MQ below (zQi g (zPm U W Q)) args s 0 0 (zA g)) 21 [(0, .ref (g.2.2.1 117)), (1, .int x1), (2, .int x2)] [] (U, u, W) := by
  intro n
  induction n with
  | zero => intro _ _ _ h; exact h.elim
  | succ n ih =>
    intro x1 x2 u h
    unfold wl_X10_keeps_21 at h
    refine zm_iload_n C dX10_keeps_21 rfl 2 rfl ?_
    refine zm_sipush (v := 833) C dX10_keeps_22 (by decide) ?_
    refine zm_icmp_ge (tgt := 49) C dX10_keeps_25 (by decide) (fun hc_1 => ?_) (fun hc_1 => ?_)
    · have h := h.1 hc_1
      refine zm_aload_n C dX10_keeps_49 rfl 0 rfl ?_
      refine zm_dup C dX10_keeps_50 rfl ?_
      refine gf_RX10_65 C kd_117 dX10_keeps_51 ?_
      refine zm_iconst (v := 1) C dX10_keeps_54 (by decide) ?_
      refine zm_isub C dX10_keeps_55 ?_
      refine pf_RX10_65 C kd_117  dX10_keeps_56 (fun u_2 hu_2 => ?_)
      have h := h u_2 hu_2
      exact zm_sub [0, 1] rfl (vb_X10_keeps_59 C hr  _ _ h)
    · have h := h.2 hc_1
      refine zm_aload_n C dX10_keeps_28 rfl 0 rfl ?_
      refine gf_RX10_16 (k1 := 120) C kd_117 rfl dX10_keeps_29 ?_
      refine zm_iload_n C dX10_keeps_32 rfl 2 rfl ?_
      refine zm_aload_n C dX10_keeps_33 rfl 0 rfl ?_
      refine gf_RX10_16 (k1 := 120) C kd_117 rfl dX10_keeps_34 ?_
      refine zm_bipush (v := 119) C dX10_keeps_37 (by decide) ?_
      refine zm_iload_n C dX10_keeps_39 rfl 2 rfl ?_
      refine zm_iadd C dX10_keeps_40 ?_
      obtain ⟨hg_3, h⟩ := h
      refine zq_ld_m C kd_120 ln_120 hg_3 dX10_keeps_41 ?_
      obtain ⟨hg_4, h⟩ := h
      refine zq_st_m C kd_120 ln_120 hg_4 dX10_keeps_42 (fun u_5 hu_5 => ?_)
      have h := h u_5 hu_5
      obtain ⟨x2_6, hx2_6⟩ : ∃ z, z = x2 + (1 : Int32) := ⟨_, rfl⟩
      have h := h x2_6 hx2_6
      refine zm_iinc (v := x2_6) (lv' := [(2, .int x2_6), (0, .ref (g.2.2.1 117)), (1, .int x1)]) C dX10_keeps_43 2 rfl (by rw [hx2_6]; rfl) (by decide) rfl ?_
      refine zm_goto (tgt := 21) C dX10_keeps_46 (by decide) ?_
      exact zm_sub [1, 2, 0] rfl (ih _ _ _ h)
def w_X10_keeps (x1 : Int32) (u : MU) (Q : Int32 → MU → Prop) : Prop := ((0 ≤ x1) → ((¬ (u 117 3) = (8 : Int32)) → wb_X10_keeps_59   Q x1 u) ∧ (((u 117 3) = (8 : Int32)) → ∃ nn, wl_X10_keeps_21   Q nn x1 (0 : Int32) u)) ∧ ((¬ 0 ≤ x1) → w_X10_raises (1 : Int32) u (fun r_3 u_4 => Q r_3 u_4))
set_option maxHeartbeats 4000000 in
set_option maxRecDepth 100000 in
theorem c_X10_keeps (l : Launch) (g : GE) (U : MU) (u : MU) (W : (Nat → Int64) × (Nat → UInt64)) (x1 : Int32) {Q : Int32 → MU → Prop} (h : w_X10_keeps x1 u Q) : Met l yX10_keeps (.code yX10_keeps cX10_keeps 3 (Option.some Jvm.ClassFile.FieldType.int) :: TB) rm_X10_keeps (zPc g (U, u, W) [.ref (g.2.2.1 117), .int x1]) (zQi g (zPm U W Q)) 0 0 (zA g) := by
  unfold w_X10_keeps at h
  refine zMet (own := RX10) [(0, .ref (g.2.2.1 117)), (1, .int x1)] (by decide +kernel) rfl (Nat.le_of_ble_eq_true rfl) rfl (fun p e s m args below meth c C hr => ?_)
  refine zm_iload_n C dX10_keeps_0 rfl 1 rfl ?_
  refine zm_if_ge (tgt := 10) C dX10_keeps_1 (by decide) (fun hc_1 => ?_) (fun hc_1 => ?_)
  · have h := h.1 hc_1
    refine zm_aload_n C dX10_keeps_10 rfl 0 rfl ?_
    refine gf_RX10_65 C kd_117 dX10_keeps_11 ?_
    refine zm_bipush (v := 8) C dX10_keeps_14 (by decide) ?_
    refine zm_icmp_ne (tgt := 59) C dX10_keeps_16 (by decide) (fun hc_2 => ?_) (fun hc_2 => ?_)
    · have h := h.1 hc_2
      exact zm_sub [0, 1] rfl (vb_X10_keeps_59 C hr  _ _ h)
    · have h := h.2 hc_2
      refine zm_iconst (v := 0) C dX10_keeps_19 (by decide) ?_
      refine zm_istore_n (lv' := [(2, .int (0 : Int32)), (0, .ref (g.2.2.1 117)), (1, .int x1)]) C dX10_keeps_20 rfl (by decide) rfl ?_
      obtain ⟨nn, h⟩ := h
      exact zm_sub [1, 2, 0] rfl (vl_X10_keeps_21 C hr  nn _ _ _ h)
  · have h := h.2 hc_1
    refine zm_aload_n C dX10_keeps_4 rfl 0 rfl ?_
    refine zm_iconst (v := 1) C dX10_keeps_5 (by decide) ?_
    refine zm_ci (zr_V (As := [.int (1 : Int32)]) (rest := []) C (c_X10_raises l g U u W (1 : Int32) h) wd_1204 wd_1206 wp_34 wd_11 wd_1207 hy_X10_raises rfl rfl ⟨by decide, by decide⟩ ⟨by decide, by decide⟩ (ci := 10) (by decide) (zCell_k kd_117) rfl rfl rfl rfl (Nat.le_of_ble_eq_true rfl) dX10_keeps_6) (fun r_3 M1 hq => ?_)
    obtain ⟨u_4, rfl, h⟩ := hq
    exact zm_iret C hr dX10_keeps_9 ⟨_, rfl, h⟩
abbrev rm_X10_refuses : Room := { frames := 0, cells := 0, slots := 0, locals := 0 }
def w_X10_refuses (x1 : Int32) (x2 : Int32) (u : MU) (Q : Int32 → MU → Prop) : Prop := (∀ u_1, u_1 = u2 u 117 14 x1 → (∀ u_2, u_2 = u2 u_1 117 15 x2 → (∀ u_3, u_3 = u2 u_2 117 16 (0 : Int32) → Q (-1 : Int32) u_3)))
set_option maxHeartbeats 4000000 in
set_option maxRecDepth 100000 in
theorem c_X10_refuses (l : Launch) (g : GE) (U : MU) (u : MU) (W : (Nat → Int64) × (Nat → UInt64)) (x1 : Int32) (x2 : Int32) {Q : Int32 → MU → Prop} (h : w_X10_refuses x1 x2 u Q) : Met l yX10_refuses (.code yX10_refuses cX10_refuses 3 (Option.some Jvm.ClassFile.FieldType.int) :: TB) rm_X10_refuses (zPc g (U, u, W) [.ref (g.2.2.1 117), .int x1, .int x2]) (zQi g (zPm U W Q)) 0 0 (zA g) := by
  unfold w_X10_refuses at h
  refine zMet (own := RX10) [(0, .ref (g.2.2.1 117)), (1, .int x1), (2, .int x2)] (by decide +kernel) rfl (Nat.le_of_ble_eq_true rfl) rfl (fun p e s m args below meth c C hr => ?_)
  refine zm_aload_n C dX10_refuses_0 rfl 0 rfl ?_
  refine zm_iload_n C dX10_refuses_1 rfl 1 rfl ?_
  refine pf_RX10_68 C kd_117  dX10_refuses_2 (fun u_1 hu_1 => ?_)
  have h := h u_1 hu_1
  refine zm_aload_n C dX10_refuses_5 rfl 0 rfl ?_
  refine zm_iload_n C dX10_refuses_6 rfl 2 rfl ?_
  refine pf_RX10_71 C kd_117  dX10_refuses_7 (fun u_2 hu_2 => ?_)
  have h := h u_2 hu_2
  refine zm_aload_n C dX10_refuses_10 rfl 0 rfl ?_
  refine zm_iconst (v := 0) C dX10_refuses_11 (by decide) ?_
  refine pf_RX10_74 C kd_117  dX10_refuses_12 (fun u_3 hu_3 => ?_)
  have h := h u_3 hu_3
  refine zm_iconst (v := -1) C dX10_refuses_15 (by decide) ?_
  exact zm_iret C hr dX10_refuses_16 ⟨_, rfl, h⟩
abbrev rm_X10_isBurrow : Room := { frames := 1, cells := 0, slots := 0, locals := 22 }
def w_X10_isBurrow (u : MU) (x1 : Int32) (Q : Int32 → Prop) : Prop := vp_in (0 : Int32) 119 ∧ (w_X10_in x1 (0 : Int32) ((u 118 ((0 : Int32)).toNatClampNeg) - (1 : Int32)) (fun r_2 => narrow .boolean (.int r_2) = .int r_2 ∧ Q r_2))
set_option maxHeartbeats 4000000 in
set_option maxRecDepth 100000 in
theorem c_X10_isBurrow (l : Launch) (g : GE) (U : MU) (u : MU) (W : (Nat → Int64) × (Nat → UInt64)) (x1 : Int32) {Q : Int32 → Prop} (h : w_X10_isBurrow u x1 Q) : Met l yX10_isBurrow (.code yX10_isBurrow cX10_isBurrow 2 (Option.some Jvm.ClassFile.FieldType.boolean) :: TB) rm_X10_isBurrow (zPc g (U, u, W) [.ref (g.2.2.1 117), .int x1]) (zQi g (zP0 (U, u, W) Q)) 0 0 (zA g) := by
  unfold w_X10_isBurrow at h
  refine zMet (own := RX10) [(0, .ref (g.2.2.1 117)), (1, .int x1)] (by decide +kernel) rfl (Nat.le_of_ble_eq_true rfl) rfl (fun p e s m args below meth c C hr => ?_)
  refine zm_iload_n C dX10_isBurrow_0 rfl 1 rfl ?_
  refine zm_iconst (v := 0) C dX10_isBurrow_1 (by decide) ?_
  refine zm_aload_n C dX10_isBurrow_2 rfl 0 rfl ?_
  refine gf_RX10_9 (k1 := 118) C kd_117 rfl dX10_isBurrow_3 ?_
  refine zm_iconst (v := 0) C dX10_isBurrow_6 (by decide) ?_
  obtain ⟨hg_1, h⟩ := h
  refine zq_ld_m C kd_118 ln_118 hg_1 dX10_isBurrow_7 ?_
  refine zm_iconst (v := 1) C dX10_isBurrow_8 (by decide) ?_
  refine zm_isub C dX10_isBurrow_9 ?_
  refine zm_ci (zr_S (As := [.int x1, .int (0 : Int32), .int ((u 118 ((0 : Int32)).toNatClampNeg) - (1 : Int32))]) (rest := []) C (c_X10_in l g (U, u, W) x1 (0 : Int32) ((u 118 ((0 : Int32)).toNatClampNeg) - (1 : Int32)) h) wd_1224 wd_1225 wd_11 wd_1226 hy_X10_in rfl rfl ⟨by decide, by decide⟩ ⟨by decide, by decide⟩ rfl rfl (Nat.le_of_ble_eq_true rfl) dX10_isBurrow_10) (fun r_2 M1 hq => ?_)
  obtain ⟨rfl, h⟩ := hq
  obtain ⟨hg_4, h⟩ := h
  exact zm_zret (ty := .boolean) C hr hg_4 dX10_isBurrow_13 ⟨rfl, h⟩
abbrev rm_X10_path : Room := { frames := 0, cells := 0, slots := 0, locals := 0 }
def wb_X10_path_66 (L2 : Int32 → Int32 → Int32 → Prop) (u : MU) (Q : Int32 → Prop) (x1 : Int32) (x2 : Int32) (x3 : Int32) : Prop := ∀ x3_1, x3_1 = x3 + (1 : Int32) → L2 x1 x2 x3_1
set_option maxHeartbeats 4000000 in
set_option maxRecDepth 100000 in
theorem vb_X10_path_66 {p : Program} {l : Launch} {e : Env} {s : State} {m : MethodId} {args : Array Value} {below : List Frame} {meth : Method} {c : Code} {g : GE} {U : MU} {W : (Nat → Int64) × (Nat → UInt64)} {u : MU} {Q : Int32 → Prop} (C : zCx p l s m args meth c g RX10 cX10_path 6) (hr : meth.sig.returnType = (Option.some Jvm.ClassFile.FieldType.int)) {L2 : Int32 → Int32 → Int32 → Prop} (hL2 : ∀ (x1 : Int32) (x2 : Int32) (x3 : Int32) , L2 x1 x2 x3  → WM p l e rm_X10_path s m args below meth c g 6 0 0 (MQ below (zQi g (zP0 (U, u, W) Q)) args s 0 0 (zA g)) 2 [(0, .ref (g.2.2.1 117)), (1, .int x1), (2, .int x2), (3, .int x3)] [] (U, u, W)) (x1 : Int32) (x2 : Int32) (x3 : Int32) (h : wb_X10_path_66 L2 u Q x1 x2 x3) : WM p l e rm_X10_path s m args below meth c g 6 0 0 (MQ below (zQi g (zP0 (U, u, W) Q)) args s 0 0 (zA g)) 66 [(0, .ref (g.2.2.1 117)), (1, .int x1), (2, .int x2), (3, .int x3)] [] (U, u, W) := by
  unfold wb_X10_path_66 at h
  obtain ⟨x3_1, hx3_1⟩ : ∃ z, z = x3 + (1 : Int32) := ⟨_, rfl⟩
  have h := h x3_1 hx3_1
  refine zm_iinc (v := x3_1) (lv' := [(3, .int x3_1), (0, .ref (g.2.2.1 117)), (1, .int x1), (2, .int x2)]) C dX10_path_66 3 rfl (by rw [hx3_1]; rfl) (by decide) rfl ?_
  refine zm_goto (tgt := 2) C dX10_path_69 (by decide) ?_
  exact zm_sub [1, 2, 3, 0] rfl (hL2 _ _ _ h)
def wb_X10_path_52 (L2 : Int32 → Int32 → Int32 → Prop) (u : MU) (Q : Int32 → Prop) (x1 : Int32) (x2 : Int32) (x3 : Int32) (x4 : Int32) (x5 : Int32) : Prop := ((¬ x4 = x2) → wb_X10_path_66 L2 u Q x1 x2 x3) ∧ ((x4 = x2) → ((¬ x5 = x1) → wb_X10_path_66 L2 u Q x1 x2 x3) ∧ ((x5 = x1) → Q x3))
set_option maxHeartbeats 4000000 in
set_option maxRecDepth 100000 in
theorem vb_X10_path_52 {p : Program} {l : Launch} {e : Env} {s : State} {m : MethodId} {args : Array Value} {below : List Frame} {meth : Method} {c : Code} {g : GE} {U : MU} {W : (Nat → Int64) × (Nat → UInt64)} {u : MU} {Q : Int32 → Prop} (C : zCx p l s m args meth c g RX10 cX10_path 6) (hr : meth.sig.returnType = (Option.some Jvm.ClassFile.FieldType.int)) {L2 : Int32 → Int32 → Int32 → Prop} (hL2 : ∀ (x1 : Int32) (x2 : Int32) (x3 : Int32) , L2 x1 x2 x3  → WM p l e rm_X10_path s m args below meth c g 6 0 0 (MQ below (zQi g (zP0 (U, u, W) Q)) args s 0 0 (zA g)) 2 [(0, .ref (g.2.2.1 117)), (1, .int x1), (2, .int x2), (3, .int x3)] [] (U, u, W)) (x1 : Int32) (x2 : Int32) (x3 : Int32) (x4 : Int32) (x5 : Int32) (h : wb_X10_path_52 L2 u Q x1 x2 x3 x4 x5) : WM p l e rm_X10_path s m args below meth c g 6 0 0 (MQ below (zQi g (zP0 (U, u, W) Q)) args s 0 0 (zA g)) 52 [(0, .ref (g.2.2.1 117)), (1, .int x1), (2, .int x2), (3, .int x3), (4, .int x4), (5, .int x5)] [] (U, u, W) := by
  unfold wb_X10_path_52 at h
  refine zm_iload C dX10_path_52 4 rfl ?_
  refine zm_iload_n C dX10_path_54 rfl 2 rfl ?_
  refine zm_icmp_ne (tgt := 66) C dX10_path_55 (by decide) (fun hc_1 => ?_) (fun hc_1 => ?_)
  · have h := h.1 hc_1
    exact zm_sub [0, 1, 2, 3] rfl (vb_X10_path_66 C hr hL2 _ _ _ h)
  · have h := h.2 hc_1
    refine zm_iload C dX10_path_58 5 rfl ?_
    refine zm_iload_n C dX10_path_60 rfl 1 rfl ?_
    refine zm_icmp_ne (tgt := 66) C dX10_path_61 (by decide) (fun hc_2 => ?_) (fun hc_2 => ?_)
    · have h := h.1 hc_2
      exact zm_sub [0, 1, 2, 3] rfl (vb_X10_path_66 C hr hL2 _ _ _ h)
    · have h := h.2 hc_2
      refine zm_iload_n C dX10_path_64 rfl 3 rfl ?_
      exact zm_iret C hr dX10_path_65 ⟨rfl, h⟩
def wl_X10_path_2 (u : MU) (Q : Int32 → Prop) : Nat → Int32 → Int32 → Int32 → Prop
  | 0, _, _, _ => False
  | n + 1, x1, x2, x3 => vp_in (3 : Int32) 119 ∧ ((((u 118 ((3 : Int32)).toNatClampNeg) ≤ x3) → Q (-1 : Int32)) ∧ ((¬ (u 118 ((3 : Int32)).toNatClampNeg) ≤ x3) → vp_in ((7 : Int32) + ((2 : Int32) * x3)) 119 ∧ (∀ x4_4, x4_4 = (u 118 (((7 : Int32) + ((2 : Int32) * x3))).toNatClampNeg) → vp_in (((7 : Int32) + ((2 : Int32) * x3)) + (1 : Int32)) 119 ∧ (∀ x5_6, x5_6 = (u 118 ((((7 : Int32) + ((2 : Int32) * x3)) + (1 : Int32))).toNatClampNeg) → ((¬ x4_4 = x1) → wb_X10_path_52 (fun x1' x2' x3' => wl_X10_path_2 u Q n x1' x2' x3') u Q x1 x2 x3 x4_4 x5_6) ∧ ((x4_4 = x1) → ((x5_6 = x2) → Q x3) ∧ ((¬ x5_6 = x2) → wb_X10_path_52 (fun x1' x2' x3' => wl_X10_path_2 u Q n x1' x2' x3') u Q x1 x2 x3 x4_4 x5_6))))))
set_option maxHeartbeats 4000000 in
set_option maxRecDepth 100000 in
theorem vl_X10_path_2 {p : Program} {l : Launch} {e : Env} {s : State} {m : MethodId} {args : Array Value} {below : List Frame} {meth : Method} {c : Code} {g : GE} {U : MU} {W : (Nat → Int64) × (Nat → UInt64)} {u : MU} {Q : Int32 → Prop} (C : zCx p l s m args meth c g RX10 cX10_path 6) (hr : meth.sig.returnType = (Option.some Jvm.ClassFile.FieldType.int)) : ∀ (n : Nat) (x1 : Int32) (x2 : Int32) (x3 : Int32) , wl_X10_path_2  u Q n x1 x2 x3 → WM p l e rm_X10_path s m args below meth c g 6 0 0 (MQ below (zQi g (zP0 (U, u, W) Q)) args s 0 0 (zA g)) 2 [(0, .ref (g.2.2.1 117)), (1, .int x1), (2, .int x2), (3, .int x3)] [] (U, u, W) := by
  intro n
  induction n with
  | zero => intro _ _ _ h; exact h.elim
  | succ n ih =>
    intro x1 x2 x3 h
    unfold wl_X10_path_2 at h
    refine zm_iload_n C dX10_path_2 rfl 3 rfl ?_
    refine zm_aload_n C dX10_path_3 rfl 0 rfl ?_
    refine gf_RX10_9 (k1 := 118) C kd_117 rfl dX10_path_4 ?_
    refine zm_iconst (v := 3) C dX10_path_7 (by decide) ?_
    obtain ⟨hg_1, h⟩ := h
    refine zq_ld_m C kd_118 ln_118 hg_1 dX10_path_8 ?_
    refine zm_icmp_ge (tgt := 72) C dX10_path_9 (by decide) (fun hc_2 => ?_) (fun hc_2 => ?_)
    · have h := h.1 hc_2
      refine zm_iconst (v := -1) C dX10_path_72 (by decide) ?_
      exact zm_iret C hr dX10_path_73 ⟨rfl, h⟩
    · have h := h.2 hc_2
      refine zm_aload_n C dX10_path_12 rfl 0 rfl ?_
      refine gf_RX10_9 (k1 := 118) C kd_117 rfl dX10_path_13 ?_
      refine zm_bipush (v := 7) C dX10_path_16 (by decide) ?_
      refine zm_iconst (v := 2) C dX10_path_18 (by decide) ?_
      refine zm_iload_n C dX10_path_19 rfl 3 rfl ?_
      refine zm_imul C dX10_path_20 ?_
      refine zm_iadd C dX10_path_21 ?_
      obtain ⟨hg_3, h⟩ := h
      refine zq_ld_m C kd_118 ln_118 hg_3 dX10_path_22 ?_
      refine zm_nmI (fun x4_4 hx4_4 => ?_)
      have h := h x4_4 hx4_4
      refine zm_istore (lv' := [(4, .int x4_4), (0, .ref (g.2.2.1 117)), (1, .int x1), (2, .int x2), (3, .int x3)]) C dX10_path_23 (by decide) rfl ?_
      refine zm_aload_n C dX10_path_25 rfl 1 rfl ?_
      refine gf_RX10_9 (k1 := 118) C kd_117 rfl dX10_path_26 ?_
      refine zm_bipush (v := 7) C dX10_path_29 (by decide) ?_
      refine zm_iconst (v := 2) C dX10_path_31 (by decide) ?_
      refine zm_iload_n C dX10_path_32 rfl 4 rfl ?_
      refine zm_imul C dX10_path_33 ?_
      refine zm_iadd C dX10_path_34 ?_
      refine zm_iconst (v := 1) C dX10_path_35 (by decide) ?_
      refine zm_iadd C dX10_path_36 ?_
      obtain ⟨hg_5, h⟩ := h
      refine zq_ld_m C kd_118 ln_118 hg_5 dX10_path_37 ?_
      refine zm_nmI (fun x5_6 hx5_6 => ?_)
      have h := h x5_6 hx5_6
      refine zm_istore (lv' := [(5, .int x5_6), (4, .int x4_4), (0, .ref (g.2.2.1 117)), (1, .int x1), (2, .int x2), (3, .int x3)]) C dX10_path_38 (by decide) rfl ?_
      refine zm_iload C dX10_path_40 1 rfl ?_
      refine zm_iload_n C dX10_path_42 rfl 3 rfl ?_
      refine zm_icmp_ne (tgt := 52) C dX10_path_43 (by decide) (fun hc_7 => ?_) (fun hc_7 => ?_)
      · have h := h.1 hc_7
        exact zm_sub [2, 3, 4, 5, 1, 0] rfl (vb_X10_path_52 C hr ih _ _ _ _ _ h)
      · have h := h.2 hc_7
        refine zm_iload C dX10_path_46 0 rfl ?_
        refine zm_iload_n C dX10_path_48 rfl 4 rfl ?_
        refine zm_icmp_eq (tgt := 64) C dX10_path_49 (by decide) (fun hc_8 => ?_) (fun hc_8 => ?_)
        · have h := h.1 hc_8
          refine zm_iload_n C dX10_path_64 rfl 5 rfl ?_
          exact zm_iret C hr dX10_path_65 ⟨rfl, h⟩
        · have h := h.2 hc_8
          exact zm_sub [2, 3, 4, 5, 1, 0] rfl (vb_X10_path_52 C hr ih _ _ _ _ _ h)
def w_X10_path (u : MU) (x1 : Int32) (x2 : Int32) (Q : Int32 → Prop) : Prop := ∃ nn, wl_X10_path_2  u Q nn x1 x2 (0 : Int32)
set_option maxHeartbeats 4000000 in
set_option maxRecDepth 100000 in
theorem c_X10_path (l : Launch) (g : GE) (U : MU) (u : MU) (W : (Nat → Int64) × (Nat → UInt64)) (x1 : Int32) (x2 : Int32) {Q : Int32 → Prop} (h : w_X10_path u x1 x2 Q) : Met l yX10_path (.code yX10_path cX10_path 6 (Option.some Jvm.ClassFile.FieldType.int) :: TB) rm_X10_path (zPc g (U, u, W) [.ref (g.2.2.1 117), .int x1, .int x2]) (zQi g (zP0 (U, u, W) Q)) 0 0 (zA g) := by
  unfold w_X10_path at h
  refine zMet (own := RX10) [(0, .ref (g.2.2.1 117)), (1, .int x1), (2, .int x2)] (by decide +kernel) rfl (Nat.le_of_ble_eq_true rfl) rfl (fun p e s m args below meth c C hr => ?_)
  refine zm_iconst (v := 0) C dX10_path_0 (by decide) ?_
  refine zm_istore_n (lv' := [(3, .int (0 : Int32)), (0, .ref (g.2.2.1 117)), (1, .int x1), (2, .int x2)]) C dX10_path_1 rfl (by decide) rfl ?_
  obtain ⟨nn, h⟩ := h
  exact zm_sub [1, 2, 3, 0] rfl (vl_X10_path_2 C hr  nn _ _ _ h)
abbrev rm_X10_isTrap : Room := { frames := 0, cells := 0, slots := 0, locals := 0 }
def w_X10_isTrap (u : MU) (x1 : Int32) (Q : Int32 → Prop) : Prop := vp_in (1 : Int32) 119 ∧ (((¬ (((u 118 ((1 : Int32)).toNatClampNeg) >>> (x1 &&& 31)) &&& (1 : Int32)) = (1 : Int32)) → Q (0 : Int32)) ∧ (((((u 118 ((1 : Int32)).toNatClampNeg) >>> (x1 &&& 31)) &&& (1 : Int32)) = (1 : Int32)) → Q (1 : Int32)))
set_option maxHeartbeats 4000000 in
set_option maxRecDepth 100000 in
theorem c_X10_isTrap (l : Launch) (g : GE) (U : MU) (u : MU) (W : (Nat → Int64) × (Nat → UInt64)) (x1 : Int32) {Q : Int32 → Prop} (h : w_X10_isTrap u x1 Q) : Met l yX10_isTrap (.code yX10_isTrap cX10_isTrap 2 (Option.some Jvm.ClassFile.FieldType.boolean) :: TB) rm_X10_isTrap (zPc g (U, u, W) [.ref (g.2.2.1 117), .int x1]) (zQi g (zP0 (U, u, W) Q)) 0 0 (zA g) := by
  unfold w_X10_isTrap at h
  refine zMet (own := RX10) [(0, .ref (g.2.2.1 117)), (1, .int x1)] (by decide +kernel) rfl (Nat.le_of_ble_eq_true rfl) rfl (fun p e s m args below meth c C hr => ?_)
  refine zm_aload_n C dX10_isTrap_0 rfl 0 rfl ?_
  refine gf_RX10_9 (k1 := 118) C kd_117 rfl dX10_isTrap_1 ?_
  refine zm_iconst (v := 1) C dX10_isTrap_4 (by decide) ?_
  obtain ⟨hg_1, h⟩ := h
  refine zq_ld_m C kd_118 ln_118 hg_1 dX10_isTrap_5 ?_
  refine zm_iload_n C dX10_isTrap_6 rfl 1 rfl ?_
  refine zm_ishr C dX10_isTrap_7 ?_
  refine zm_iconst (v := 1) C dX10_isTrap_8 (by decide) ?_
  refine zm_iand C dX10_isTrap_9 ?_
  refine zm_iconst (v := 1) C dX10_isTrap_10 (by decide) ?_
  refine zm_icmp_ne (tgt := 18) C dX10_isTrap_11 (by decide) (fun hc_2 => ?_) (fun hc_2 => ?_)
  · have h := h.1 hc_2
    refine zm_iconst (v := 0) C dX10_isTrap_18 (by decide) ?_
    exact zm_zret (ty := .boolean) C hr (by decide) dX10_isTrap_19 ⟨rfl, h⟩
  · have h := h.2 hc_2
    refine zm_iconst (v := 1) C dX10_isTrap_14 (by decide) ?_
    refine zm_goto (tgt := 19) C dX10_isTrap_15 (by decide) ?_
    exact zm_zret (ty := .boolean) C hr (by decide) dX10_isTrap_19 ⟨rfl, h⟩
abbrev rm_X10_fox : Room := { frames := 0, cells := 0, slots := 0, locals := 0 }
def w_X10_fox (x0 : Int32) (Q : Int32 → Prop) : Prop := Q (x0 / (162 : Int32))
set_option maxHeartbeats 4000000 in
set_option maxRecDepth 100000 in
theorem c_X10_fox (l : Launch) (g : GE) (M : Mem) (x0 : Int32) {Q : Int32 → Prop} (h : w_X10_fox x0 Q) : Met l yX10_fox (.code yX10_fox cX10_fox 1 (Option.some Jvm.ClassFile.FieldType.int) :: TB) rm_X10_fox (zPc g M [.int x0]) (zQi g (zP0 M Q)) 0 0 (zA g) := by
  unfold w_X10_fox at h
  refine zMet (own := RX10) [(0, .int x0)] (by decide +kernel) rfl (Nat.le_of_ble_eq_true rfl) rfl (fun p e s m args below meth c C hr => ?_)
  refine zm_iload_n C dX10_fox_0 rfl 0 rfl ?_
  refine zm_sipush (v := 162) C dX10_fox_1 (by decide) ?_
  refine zm_idiv C dX10_fox_4 (by decide) ?_
  exact zm_iret C hr dX10_fox_5 ⟨rfl, h⟩
abbrev rm_X10_first : Room := { frames := 0, cells := 0, slots := 0, locals := 0 }
def w_X10_first (x0 : Int32) (Q : Int32 → Prop) : Prop := Q ((x0 - x0 / (162 : Int32) * (162 : Int32)) / (18 : Int32))
set_option maxHeartbeats 4000000 in
set_option maxRecDepth 100000 in
theorem c_X10_first (l : Launch) (g : GE) (M : Mem) (x0 : Int32) {Q : Int32 → Prop} (h : w_X10_first x0 Q) : Met l yX10_first (.code yX10_first cX10_first 1 (Option.some Jvm.ClassFile.FieldType.int) :: TB) rm_X10_first (zPc g M [.int x0]) (zQi g (zP0 M Q)) 0 0 (zA g) := by
  unfold w_X10_first at h
  refine zMet (own := RX10) [(0, .int x0)] (by decide +kernel) rfl (Nat.le_of_ble_eq_true rfl) rfl (fun p e s m args below meth c C hr => ?_)
  refine zm_iload_n C dX10_first_0 rfl 0 rfl ?_
  refine zm_sipush (v := 162) C dX10_first_1 (by decide) ?_
  refine zm_irem C dX10_first_4 (by decide) ?_
  refine zm_bipush (v := 18) C dX10_first_5 (by decide) ?_
  refine zm_idiv C dX10_first_7 (by decide) ?_
  exact zm_iret C hr dX10_first_8 ⟨rfl, h⟩
abbrev rm_X10_second : Room := { frames := 0, cells := 0, slots := 0, locals := 0 }
def w_X10_second (x0 : Int32) (Q : Int32 → Prop) : Prop := Q (((x0 - x0 / (18 : Int32) * (18 : Int32)) / (2 : Int32)) - (1 : Int32))
set_option maxHeartbeats 4000000 in
set_option maxRecDepth 100000 in
theorem c_X10_second (l : Launch) (g : GE) (M : Mem) (x0 : Int32) {Q : Int32 → Prop} (h : w_X10_second x0 Q) : Met l yX10_second (.code yX10_second cX10_second 1 (Option.some Jvm.ClassFile.FieldType.int) :: TB) rm_X10_second (zPc g M [.int x0]) (zQi g (zP0 M Q)) 0 0 (zA g) := by
  unfold w_X10_second at h
  refine zMet (own := RX10) [(0, .int x0)] (by decide +kernel) rfl (Nat.le_of_ble_eq_true rfl) rfl (fun p e s m args below meth c C hr => ?_)
  refine zm_iload_n C dX10_second_0 rfl 0 rfl ?_
  refine zm_bipush (v := 18) C dX10_second_1 (by decide) ?_
  refine zm_irem C dX10_second_3 (by decide) ?_
  refine zm_iconst (v := 2) C dX10_second_4 (by decide) ?_
  refine zm_idiv C dX10_second_5 (by decide) ?_
  refine zm_iconst (v := 1) C dX10_second_6 (by decide) ?_
  refine zm_isub C dX10_second_7 ?_
  exact zm_iret C hr dX10_second_8 ⟨rfl, h⟩
abbrev rm_X10_isGeese : Room := { frames := 0, cells := 0, slots := 0, locals := 0 }
def w_X10_isGeese (x0 : Int32) (Q : Int32 → Prop) : Prop := ((¬ (x0 - x0 / (2 : Int32) * (2 : Int32)) = (1 : Int32)) → Q (0 : Int32)) ∧ (((x0 - x0 / (2 : Int32) * (2 : Int32)) = (1 : Int32)) → Q (1 : Int32))
set_option maxHeartbeats 4000000 in
set_option maxRecDepth 100000 in
theorem c_X10_isGeese (l : Launch) (g : GE) (M : Mem) (x0 : Int32) {Q : Int32 → Prop} (h : w_X10_isGeese x0 Q) : Met l yX10_isGeese (.code yX10_isGeese cX10_isGeese 1 (Option.some Jvm.ClassFile.FieldType.boolean) :: TB) rm_X10_isGeese (zPc g M [.int x0]) (zQi g (zP0 M Q)) 0 0 (zA g) := by
  unfold w_X10_isGeese at h
  refine zMet (own := RX10) [(0, .int x0)] (by decide +kernel) rfl (Nat.le_of_ble_eq_true rfl) rfl (fun p e s m args below meth c C hr => ?_)
  refine zm_iload_n C dX10_isGeese_0 rfl 0 rfl ?_
  refine zm_iconst (v := 2) C dX10_isGeese_1 (by decide) ?_
  refine zm_irem C dX10_isGeese_2 (by decide) ?_
  refine zm_iconst (v := 1) C dX10_isGeese_3 (by decide) ?_
  refine zm_icmp_ne (tgt := 11) C dX10_isGeese_4 (by decide) (fun hc_1 => ?_) (fun hc_1 => ?_)
  · have h := h.1 hc_1
    refine zm_iconst (v := 0) C dX10_isGeese_11 (by decide) ?_
    exact zm_zret (ty := .boolean) C hr (by decide) dX10_isGeese_12 ⟨rfl, h⟩
  · have h := h.2 hc_1
    refine zm_iconst (v := 1) C dX10_isGeese_7 (by decide) ?_
    refine zm_goto (tgt := 12) C dX10_isGeese_8 (by decide) ?_
    exact zm_zret (ty := .boolean) C hr (by decide) dX10_isGeese_12 ⟨rfl, h⟩
abbrev rm_X10_numberOf : Room := { frames := 0, cells := 0, slots := 0, locals := 0 }
def wb_X10_numberOf_25 (Q : Int32 → Prop) (s0 : Int32) (s1 : Int32) : Prop := Q (s1 + s0)
set_option maxHeartbeats 4000000 in
set_option maxRecDepth 100000 in
theorem vb_X10_numberOf_25 {p : Program} {l : Launch} {e : Env} {s : State} {m : MethodId} {args : Array Value} {below : List Frame} {meth : Method} {c : Code} {g : GE} {M : Mem} {Q : Int32 → Prop} (C : zCx p l s m args meth c g RX10 cX10_numberOf 4) (hr : meth.sig.returnType = (Option.some Jvm.ClassFile.FieldType.int)) (s0 : Int32) (s1 : Int32) (h : wb_X10_numberOf_25   Q s0 s1) : WM p l e rm_X10_numberOf s m args below meth c g 4 0 0 (MQ below (zQi g (zP0 M Q)) args s 0 0 (zA g)) 25 [] [.int s0, .int s1] M := by
  unfold wb_X10_numberOf_25 at h
  refine zm_iadd C dX10_numberOf_25 ?_
  exact zm_iret C hr dX10_numberOf_26 ⟨rfl, h⟩
def w_X10_numberOf (x0 : Int32) (x1 : Int32) (x2 : Int32) (x3 : Int32) (Q : Int32 → Prop) : Prop := ((x3 = 0) → wb_X10_numberOf_25   Q (0 : Int32) ((((162 : Int32) * x0) + ((18 : Int32) * x1)) + ((2 : Int32) * (x2 + (1 : Int32))))) ∧ ((¬ x3 = 0) → wb_X10_numberOf_25   Q (1 : Int32) ((((162 : Int32) * x0) + ((18 : Int32) * x1)) + ((2 : Int32) * (x2 + (1 : Int32)))))
set_option maxHeartbeats 4000000 in
set_option maxRecDepth 100000 in
theorem c_X10_numberOf (l : Launch) (g : GE) (M : Mem) (x0 : Int32) (x1 : Int32) (x2 : Int32) (x3 : Int32) {Q : Int32 → Prop} (h : w_X10_numberOf x0 x1 x2 x3 Q) : Met l yX10_numberOf (.code yX10_numberOf cX10_numberOf 4 (Option.some Jvm.ClassFile.FieldType.int) :: TB) rm_X10_numberOf (zPc g M [.int x0, .int x1, .int x2, .int x3]) (zQi g (zP0 M Q)) 0 0 (zA g) := by
  unfold w_X10_numberOf at h
  refine zMet (own := RX10) [(0, .int x0), (1, .int x1), (2, .int x2), (3, .int x3)] (by decide +kernel) rfl (Nat.le_of_ble_eq_true rfl) rfl (fun p e s m args below meth c C hr => ?_)
  refine zm_sipush (v := 162) C dX10_numberOf_0 (by decide) ?_
  refine zm_iload_n C dX10_numberOf_3 rfl 0 rfl ?_
  refine zm_imul C dX10_numberOf_4 ?_
  refine zm_bipush (v := 18) C dX10_numberOf_5 (by decide) ?_
  refine zm_iload_n C dX10_numberOf_7 rfl 1 rfl ?_
  refine zm_imul C dX10_numberOf_8 ?_
  refine zm_iadd C dX10_numberOf_9 ?_
  refine zm_iconst (v := 2) C dX10_numberOf_10 (by decide) ?_
  refine zm_iload_n C dX10_numberOf_11 rfl 2 rfl ?_
  refine zm_iconst (v := 1) C dX10_numberOf_12 (by decide) ?_
  refine zm_iadd C dX10_numberOf_13 ?_
  refine zm_imul C dX10_numberOf_14 ?_
  refine zm_iadd C dX10_numberOf_15 ?_
  refine zm_iload_n C dX10_numberOf_16 rfl 3 rfl ?_
  refine zm_if_eq (tgt := 24) C dX10_numberOf_17 (by decide) (fun hc_1 => ?_) (fun hc_1 => ?_)
  · have h := h.1 hc_1
    refine zm_iconst (v := 0) C dX10_numberOf_24 (by decide) ?_
    exact zm_sub [] rfl (vb_X10_numberOf_25 C hr  _ _ h)
  · have h := h.2 hc_1
    refine zm_iconst (v := 1) C dX10_numberOf_20 (by decide) ?_
    refine zm_goto (tgt := 25) C dX10_numberOf_21 (by decide) ?_
    exact zm_sub [] rfl (vb_X10_numberOf_25 C hr  _ _ h)
abbrev rm_X10_is : Room := { frames := 2, cells := 0, slots := 0, locals := 43 }
def w_X10_is (u : MU) (x1 : Int32) (x2 : Int32) (x3 : Int32) (Q : Int32 → Prop) : Prop := w_X10_isBurrow u x1 (fun r_1 => ((r_1 = 0) → Q (0 : Int32)) ∧ ((¬ r_1 = 0) → w_X10_isBurrow u x2 (fun r_4 => ((r_4 = 0) → Q (0 : Int32)) ∧ ((¬ r_4 = 0) → ((¬ x1 = x2) → vp_in (2 : Int32) 119 ∧ (((¬ (u 118 ((2 : Int32)).toNatClampNeg) = (1 : Int32)) → w_X10_isBurrow u x3 (fun r_10 => ((r_10 = 0) → Q (0 : Int32)) ∧ ((¬ r_10 = 0) → ((x3 ≤ x2) → Q (0 : Int32)) ∧ ((¬ x3 ≤ x2) → ((x3 = x1) → Q (0 : Int32)) ∧ ((¬ x3 = x1) → Q (1 : Int32)))))) ∧ (((u 118 ((2 : Int32)).toNatClampNeg) = (1 : Int32)) → ((¬ x3 = (-1 : Int32)) → Q (0 : Int32)) ∧ ((x3 = (-1 : Int32)) → Q (1 : Int32))))) ∧ ((x1 = x2) → Q (0 : Int32))))))
set_option maxHeartbeats 4000000 in
set_option maxRecDepth 100000 in
theorem c_X10_is (l : Launch) (g : GE) (U : MU) (u : MU) (W : (Nat → Int64) × (Nat → UInt64)) (x1 : Int32) (x2 : Int32) (x3 : Int32) {Q : Int32 → Prop} (h : w_X10_is u x1 x2 x3 Q) : Met l yX10_is (.code yX10_is cX10_is 4 (Option.some Jvm.ClassFile.FieldType.boolean) :: TB) rm_X10_is (zPc g (U, u, W) [.ref (g.2.2.1 117), .int x1, .int x2, .int x3]) (zQi g (zP0 (U, u, W) Q)) 0 0 (zA g) := by
  unfold w_X10_is at h
  refine zMet (own := RX10) [(0, .ref (g.2.2.1 117)), (1, .int x1), (2, .int x2), (3, .int x3)] (by decide +kernel) rfl (Nat.le_of_ble_eq_true rfl) rfl (fun p e s m args below meth c C hr => ?_)
  refine zm_aload_n C dX10_is_0 rfl 0 rfl ?_
  refine zm_iload_n C dX10_is_1 rfl 1 rfl ?_
  refine zm_ci (zr_V (As := [.int x1]) (rest := []) C (c_X10_isBurrow l g U u W x1 h) wd_1220 wd_1222 wp_37 wd_11 wd_1223 hy_X10_isBurrow rfl rfl ⟨by decide, by decide⟩ ⟨by decide, by decide⟩ (ci := 10) (by decide) (zCell_k kd_117) rfl rfl rfl rfl (Nat.le_of_ble_eq_true rfl) dX10_is_2) (fun r_1 M1 hq => ?_)
  obtain ⟨rfl, h⟩ := hq
  refine zm_if_eq (tgt := 21) C dX10_is_5 (by decide) (fun hc_3 => ?_) (fun hc_3 => ?_)
  · have h := h.1 hc_3
    refine zm_iconst (v := 0) C dX10_is_21 (by decide) ?_
    exact zm_zret (ty := .boolean) C hr (by decide) dX10_is_22 ⟨rfl, h⟩
  · have h := h.2 hc_3
    refine zm_aload_n C dX10_is_8 rfl 0 rfl ?_
    refine zm_iload_n C dX10_is_9 rfl 2 rfl ?_
    refine zm_ci (zr_V (As := [.int x2]) (rest := []) C (c_X10_isBurrow l g U u W x2 h) wd_1220 wd_1222 wp_37 wd_11 wd_1223 hy_X10_isBurrow rfl rfl ⟨by decide, by decide⟩ ⟨by decide, by decide⟩ (ci := 10) (by decide) (zCell_k kd_117) rfl rfl rfl rfl (Nat.le_of_ble_eq_true rfl) dX10_is_10) (fun r_4 M1 hq => ?_)
    obtain ⟨rfl, h⟩ := hq
    refine zm_if_eq (tgt := 21) C dX10_is_13 (by decide) (fun hc_6 => ?_) (fun hc_6 => ?_)
    · have h := h.1 hc_6
      refine zm_iconst (v := 0) C dX10_is_21 (by decide) ?_
      exact zm_zret (ty := .boolean) C hr (by decide) dX10_is_22 ⟨rfl, h⟩
    · have h := h.2 hc_6
      refine zm_iload_n C dX10_is_16 rfl 1 rfl ?_
      refine zm_iload_n C dX10_is_17 rfl 2 rfl ?_
      refine zm_icmp_ne (tgt := 23) C dX10_is_18 (by decide) (fun hc_7 => ?_) (fun hc_7 => ?_)
      · have h := h.1 hc_7
        refine zm_aload_n C dX10_is_23 rfl 0 rfl ?_
        refine gf_RX10_9 (k1 := 118) C kd_117 rfl dX10_is_24 ?_
        refine zm_iconst (v := 2) C dX10_is_27 (by decide) ?_
        obtain ⟨hg_8, h⟩ := h
        refine zq_ld_m C kd_118 ln_118 hg_8 dX10_is_28 ?_
        refine zm_iconst (v := 1) C dX10_is_29 (by decide) ?_
        refine zm_icmp_ne (tgt := 46) C dX10_is_30 (by decide) (fun hc_9 => ?_) (fun hc_9 => ?_)
        · have h := h.1 hc_9
          refine zm_aload_n C dX10_is_46 rfl 0 rfl ?_
          refine zm_iload_n C dX10_is_47 rfl 3 rfl ?_
          refine zm_ci (zr_V (As := [.int x3]) (rest := []) C (c_X10_isBurrow l g U u W x3 h) wd_1220 wd_1222 wp_37 wd_11 wd_1223 hy_X10_isBurrow rfl rfl ⟨by decide, by decide⟩ ⟨by decide, by decide⟩ (ci := 10) (by decide) (zCell_k kd_117) rfl rfl rfl rfl (Nat.le_of_ble_eq_true rfl) dX10_is_48) (fun r_10 M1 hq => ?_)
          obtain ⟨rfl, h⟩ := hq
          refine zm_if_eq (tgt := 68) C dX10_is_51 (by decide) (fun hc_12 => ?_) (fun hc_12 => ?_)
          · have h := h.1 hc_12
            refine zm_iconst (v := 0) C dX10_is_68 (by decide) ?_
            exact zm_zret (ty := .boolean) C hr (by decide) dX10_is_69 ⟨rfl, h⟩
          · have h := h.2 hc_12
            refine zm_iload_n C dX10_is_54 rfl 3 rfl ?_
            refine zm_iload_n C dX10_is_55 rfl 2 rfl ?_
            refine zm_icmp_le (tgt := 68) C dX10_is_56 (by decide) (fun hc_13 => ?_) (fun hc_13 => ?_)
            · have h := h.1 hc_13
              refine zm_iconst (v := 0) C dX10_is_68 (by decide) ?_
              exact zm_zret (ty := .boolean) C hr (by decide) dX10_is_69 ⟨rfl, h⟩
            · have h := h.2 hc_13
              refine zm_iload_n C dX10_is_59 rfl 3 rfl ?_
              refine zm_iload_n C dX10_is_60 rfl 1 rfl ?_
              refine zm_icmp_eq (tgt := 68) C dX10_is_61 (by decide) (fun hc_14 => ?_) (fun hc_14 => ?_)
              · have h := h.1 hc_14
                refine zm_iconst (v := 0) C dX10_is_68 (by decide) ?_
                exact zm_zret (ty := .boolean) C hr (by decide) dX10_is_69 ⟨rfl, h⟩
              · have h := h.2 hc_14
                refine zm_iconst (v := 1) C dX10_is_64 (by decide) ?_
                refine zm_goto (tgt := 69) C dX10_is_65 (by decide) ?_
                exact zm_zret (ty := .boolean) C hr (by decide) dX10_is_69 ⟨rfl, h⟩
        · have h := h.2 hc_9
          refine zm_iload_n C dX10_is_33 rfl 3 rfl ?_
          refine zm_iconst (v := -1) C dX10_is_34 (by decide) ?_
          refine zm_icmp_ne (tgt := 42) C dX10_is_35 (by decide) (fun hc_15 => ?_) (fun hc_15 => ?_)
          · have h := h.1 hc_15
            refine zm_iconst (v := 0) C dX10_is_42 (by decide) ?_
            refine zm_goto (tgt := 69) C dX10_is_43 (by decide) ?_
            exact zm_zret (ty := .boolean) C hr (by decide) dX10_is_69 ⟨rfl, h⟩
          · have h := h.2 hc_15
            refine zm_iconst (v := 1) C dX10_is_38 (by decide) ?_
            refine zm_goto (tgt := 69) C dX10_is_39 (by decide) ?_
            exact zm_zret (ty := .boolean) C hr (by decide) dX10_is_69 ⟨rfl, h⟩
      · have h := h.2 hc_7
        refine zm_iconst (v := 0) C dX10_is_21 (by decide) ?_
        exact zm_zret (ty := .boolean) C hr (by decide) dX10_is_22 ⟨rfl, h⟩
abbrev rm_X10_isPosition : Room := { frames := 3, cells := 0, slots := 0, locals := 66 }
def w_X10_isPosition (u : MU) (x1 : Int32) (Q : Int32 → Prop) : Prop := w_X10_in x1 (0 : Int32) (1295 : Int32) (fun r_1 => ((r_1 = 0) → Q (0 : Int32)) ∧ ((¬ r_1 = 0) → w_X10_fox x1 (fun r_4 => w_X10_first x1 (fun r_6 => w_X10_second x1 (fun r_8 => w_X10_is u r_4 r_6 r_8 (fun r_10 => ((r_10 = 0) → Q (0 : Int32)) ∧ ((¬ r_10 = 0) → Q (1 : Int32))))))))
set_option maxHeartbeats 4000000 in
set_option maxRecDepth 100000 in
theorem c_X10_isPosition (l : Launch) (g : GE) (U : MU) (u : MU) (W : (Nat → Int64) × (Nat → UInt64)) (x1 : Int32) {Q : Int32 → Prop} (h : w_X10_isPosition u x1 Q) : Met l yX10_isPosition (.code yX10_isPosition cX10_isPosition 2 (Option.some Jvm.ClassFile.FieldType.boolean) :: TB) rm_X10_isPosition (zPc g (U, u, W) [.ref (g.2.2.1 117), .int x1]) (zQi g (zP0 (U, u, W) Q)) 0 0 (zA g) := by
  unfold w_X10_isPosition at h
  refine zMet (own := RX10) [(0, .ref (g.2.2.1 117)), (1, .int x1)] (by decide +kernel) rfl (Nat.le_of_ble_eq_true rfl) rfl (fun p e s m args below meth c C hr => ?_)
  refine zm_iload_n C dX10_isPosition_0 rfl 1 rfl ?_
  refine zm_iconst (v := 0) C dX10_isPosition_1 (by decide) ?_
  refine zm_sipush (v := 1295) C dX10_isPosition_2 (by decide) ?_
  refine zm_ci (zr_S (As := [.int x1, .int (0 : Int32), .int (1295 : Int32)]) (rest := []) C (c_X10_in l g (U, u, W) x1 (0 : Int32) (1295 : Int32) h) wd_1224 wd_1225 wd_11 wd_1226 hy_X10_in rfl rfl ⟨by decide, by decide⟩ ⟨by decide, by decide⟩ rfl rfl (Nat.le_of_ble_eq_true rfl) dX10_isPosition_5) (fun r_1 M1 hq => ?_)
  obtain ⟨rfl, h⟩ := hq
  refine zm_if_eq (tgt := 34) C dX10_isPosition_8 (by decide) (fun hc_3 => ?_) (fun hc_3 => ?_)
  · have h := h.1 hc_3
    refine zm_iconst (v := 0) C dX10_isPosition_34 (by decide) ?_
    exact zm_zret (ty := .boolean) C hr (by decide) dX10_isPosition_35 ⟨rfl, h⟩
  · have h := h.2 hc_3
    refine zm_aload_n C dX10_isPosition_11 rfl 0 rfl ?_
    refine zm_iload_n C dX10_isPosition_12 rfl 1 rfl ?_
    refine zm_ci (zr_S (As := [.int x1]) (rest := [.ref (g.2.2.1 117)]) C (c_X10_fox l g (U, u, W) x1 h) wd_1272 wd_1273 wd_11 wd_1274 hy_X10_fox rfl rfl ⟨by decide, by decide⟩ ⟨by decide, by decide⟩ rfl rfl (Nat.le_of_ble_eq_true rfl) dX10_isPosition_13) (fun r_4 M1 hq => ?_)
    obtain ⟨rfl, h⟩ := hq
    refine zm_iload_n C dX10_isPosition_16 rfl 1 rfl ?_
    refine zm_ci (zr_S (As := [.int x1]) (rest := [.int r_4, .ref (g.2.2.1 117)]) C (c_X10_first l g (U, u, W) x1 h) wd_1275 wd_1276 wd_11 wd_1277 hy_X10_first rfl rfl ⟨by decide, by decide⟩ ⟨by decide, by decide⟩ rfl rfl (Nat.le_of_ble_eq_true rfl) dX10_isPosition_17) (fun r_6 M1 hq => ?_)
    obtain ⟨rfl, h⟩ := hq
    refine zm_iload_n C dX10_isPosition_20 rfl 1 rfl ?_
    refine zm_ci (zr_S (As := [.int x1]) (rest := [.int r_6, .int r_4, .ref (g.2.2.1 117)]) C (c_X10_second l g (U, u, W) x1 h) wd_1278 wd_1279 wd_11 wd_1280 hy_X10_second rfl rfl ⟨by decide, by decide⟩ ⟨by decide, by decide⟩ rfl rfl (Nat.le_of_ble_eq_true rfl) dX10_isPosition_21) (fun r_8 M1 hq => ?_)
    obtain ⟨rfl, h⟩ := hq
    refine zm_ci (zr_V (As := [.int r_4, .int r_6, .int r_8]) (rest := []) C (c_X10_is l g U u W r_4 r_6 r_8 h) wd_1281 wd_1283 wp_45 wd_11 wd_1284 hy_X10_is rfl rfl ⟨by decide, by decide⟩ ⟨by decide, by decide⟩ (ci := 10) (by decide) (zCell_k kd_117) rfl rfl rfl rfl (Nat.le_of_ble_eq_true rfl) dX10_isPosition_24) (fun r_10 M1 hq => ?_)
    obtain ⟨rfl, h⟩ := hq
    refine zm_if_eq (tgt := 34) C dX10_isPosition_27 (by decide) (fun hc_12 => ?_) (fun hc_12 => ?_)
    · have h := h.1 hc_12
      refine zm_iconst (v := 0) C dX10_isPosition_34 (by decide) ?_
      exact zm_zret (ty := .boolean) C hr (by decide) dX10_isPosition_35 ⟨rfl, h⟩
    · have h := h.2 hc_12
      refine zm_iconst (v := 1) C dX10_isPosition_30 (by decide) ?_
      refine zm_goto (tgt := 35) C dX10_isPosition_31 (by decide) ?_
      exact zm_zret (ty := .boolean) C hr (by decide) dX10_isPosition_35 ⟨rfl, h⟩
abbrev rm_X10_nears : Room := { frames := 0, cells := 0, slots := 0, locals := 0 }
def wl_X10_nears_23 (Q : MU → Prop) : Nat → Int32 → MU → Prop
  | 0, _, _ => False
  | n + 1, x1, u => vp_in (3 : Int32) 119 ∧ ((((u 118 ((3 : Int32)).toNatClampNeg) ≤ x1) → Q u) ∧ ((¬ (u 118 ((3 : Int32)).toNatClampNeg) ≤ x1) → vp_in ((7 : Int32) + ((2 : Int32) * x1)) 119 ∧ (vp_in (u 118 (((7 : Int32) + ((2 : Int32) * x1))).toNatClampNeg) 8 ∧ (vp_in (((7 : Int32) + ((2 : Int32) * x1)) + (1 : Int32)) 119 ∧ (vp_in (u 118 (((7 : Int32) + ((2 : Int32) * x1))).toNatClampNeg) 8 ∧ (∀ u_7, u_7 = u2 u 125 ((u 118 (((7 : Int32) + ((2 : Int32) * x1))).toNatClampNeg)).toNatClampNeg ((u 125 ((u 118 (((7 : Int32) + ((2 : Int32) * x1))).toNatClampNeg)).toNatClampNeg) ||| ((1 : Int32) <<< ((u 118 ((((7 : Int32) + ((2 : Int32) * x1)) + (1 : Int32))).toNatClampNeg) &&& 31))) → vp_in (((7 : Int32) + ((2 : Int32) * x1)) + (1 : Int32)) 119 ∧ (vp_in (u_7 118 ((((7 : Int32) + ((2 : Int32) * x1)) + (1 : Int32))).toNatClampNeg) 8 ∧ (vp_in ((7 : Int32) + ((2 : Int32) * x1)) 119 ∧ (vp_in (u_7 118 ((((7 : Int32) + ((2 : Int32) * x1)) + (1 : Int32))).toNatClampNeg) 8 ∧ (∀ u_12, u_12 = u2 u_7 125 ((u_7 118 ((((7 : Int32) + ((2 : Int32) * x1)) + (1 : Int32))).toNatClampNeg)).toNatClampNeg ((u_7 125 ((u_7 118 ((((7 : Int32) + ((2 : Int32) * x1)) + (1 : Int32))).toNatClampNeg)).toNatClampNeg) ||| ((1 : Int32) <<< ((u_7 118 (((7 : Int32) + ((2 : Int32) * x1))).toNatClampNeg) &&& 31))) → ∀ x1_13, x1_13 = x1 + (1 : Int32) → wl_X10_nears_23   Q n x1_13 u_12))))))))))
set_option maxHeartbeats 4000000 in
set_option maxRecDepth 100000 in
theorem vl_X10_nears_23 {p : Program} {l : Launch} {e : Env} {s : State} {m : MethodId} {args : Array Value} {below : List Frame} {meth : Method} {c : Code} {g : GE} {U : MU} {W : (Nat → Int64) × (Nat → UInt64)} {Q : MU → Prop} (C : zCx p l s m args meth c g RX10 cX10_nears 2) (hr : meth.sig.returnType = (Option.none : Option Jvm.ClassFile.FieldType)) : ∀ (n : Nat) (x1 : Int32) (u : MU) , wl_X10_nears_23   Q n x1 u → WM p l e rm_X10_nears s m args below meth c g 2 0 0 (MQ below (zQv g (zPmv U W Q)) args s 0 0 (zA g)) 23 [(0, .ref (g.2.2.1 117)), (1, .int x1)] [] (U, u, W) := by
  intro n
  induction n with
  | zero => intro _ _ h; exact h.elim
  | succ n ih =>
    intro x1 u h
    unfold wl_X10_nears_23 at h
    refine zm_iload_n C dX10_nears_23 rfl 1 rfl ?_
    refine zm_aload_n C dX10_nears_24 rfl 0 rfl ?_
    refine gf_RX10_9 (k1 := 118) C kd_117 rfl dX10_nears_25 ?_
    refine zm_iconst (v := 3) C dX10_nears_28 (by decide) ?_
    obtain ⟨hg_1, h⟩ := h
    refine zq_ld_m C kd_118 ln_118 hg_1 dX10_nears_29 ?_
    refine zm_icmp_ge (tgt := 107) C dX10_nears_30 (by decide) (fun hc_2 => ?_) (fun hc_2 => ?_)
    · have h := h.1 hc_2
      exact zm_vret C hr dX10_nears_107 ⟨_, rfl, h⟩
    · have h := h.2 hc_2
      refine zm_aload_n C dX10_nears_33 rfl 0 rfl ?_
      refine gf_RX10_36 (k1 := 125) C kd_117 rfl dX10_nears_34 ?_
      refine zm_aload_n C dX10_nears_37 rfl 0 rfl ?_
      refine gf_RX10_9 (k1 := 118) C kd_117 rfl dX10_nears_38 ?_
      refine zm_bipush (v := 7) C dX10_nears_41 (by decide) ?_
      refine zm_iconst (v := 2) C dX10_nears_43 (by decide) ?_
      refine zm_iload_n C dX10_nears_44 rfl 1 rfl ?_
      refine zm_imul C dX10_nears_45 ?_
      refine zm_iadd C dX10_nears_46 ?_
      obtain ⟨hg_3, h⟩ := h
      refine zq_ld_m C kd_118 ln_118 hg_3 dX10_nears_47 ?_
      refine zm_dup2_11 C dX10_nears_48 rfl rfl ?_
      obtain ⟨hg_4, h⟩ := h
      refine zq_ld_m C kd_125 ln_125 hg_4 dX10_nears_49 ?_
      refine zm_iconst (v := 1) C dX10_nears_50 (by decide) ?_
      refine zm_aload_n C dX10_nears_51 rfl 0 rfl ?_
      refine gf_RX10_9 (k1 := 118) C kd_117 rfl dX10_nears_52 ?_
      refine zm_bipush (v := 7) C dX10_nears_55 (by decide) ?_
      refine zm_iconst (v := 2) C dX10_nears_57 (by decide) ?_
      refine zm_iload_n C dX10_nears_58 rfl 1 rfl ?_
      refine zm_imul C dX10_nears_59 ?_
      refine zm_iadd C dX10_nears_60 ?_
      refine zm_iconst (v := 1) C dX10_nears_61 (by decide) ?_
      refine zm_iadd C dX10_nears_62 ?_
      obtain ⟨hg_5, h⟩ := h
      refine zq_ld_m C kd_118 ln_118 hg_5 dX10_nears_63 ?_
      refine zm_ishl C dX10_nears_64 ?_
      refine zm_ior C dX10_nears_65 ?_
      obtain ⟨hg_6, h⟩ := h
      refine zq_st_m C kd_125 ln_125 hg_6 dX10_nears_66 (fun u_7 hu_7 => ?_)
      have h := h u_7 hu_7
      refine zm_aload_n C dX10_nears_67 rfl 0 rfl ?_
      refine gf_RX10_36 (k1 := 125) C kd_117 rfl dX10_nears_68 ?_
      refine zm_aload_n C dX10_nears_71 rfl 0 rfl ?_
      refine gf_RX10_9 (k1 := 118) C kd_117 rfl dX10_nears_72 ?_
      refine zm_bipush (v := 7) C dX10_nears_75 (by decide) ?_
      refine zm_iconst (v := 2) C dX10_nears_77 (by decide) ?_
      refine zm_iload_n C dX10_nears_78 rfl 1 rfl ?_
      refine zm_imul C dX10_nears_79 ?_
      refine zm_iadd C dX10_nears_80 ?_
      refine zm_iconst (v := 1) C dX10_nears_81 (by decide) ?_
      refine zm_iadd C dX10_nears_82 ?_
      obtain ⟨hg_8, h⟩ := h
      refine zq_ld_m C kd_118 ln_118 hg_8 dX10_nears_83 ?_
      refine zm_dup2_11 C dX10_nears_84 rfl rfl ?_
      obtain ⟨hg_9, h⟩ := h
      refine zq_ld_m C kd_125 ln_125 hg_9 dX10_nears_85 ?_
      refine zm_iconst (v := 1) C dX10_nears_86 (by decide) ?_
      refine zm_aload_n C dX10_nears_87 rfl 0 rfl ?_
      refine gf_RX10_9 (k1 := 118) C kd_117 rfl dX10_nears_88 ?_
      refine zm_bipush (v := 7) C dX10_nears_91 (by decide) ?_
      refine zm_iconst (v := 2) C dX10_nears_93 (by decide) ?_
      refine zm_iload_n C dX10_nears_94 rfl 1 rfl ?_
      refine zm_imul C dX10_nears_95 ?_
      refine zm_iadd C dX10_nears_96 ?_
      obtain ⟨hg_10, h⟩ := h
      refine zq_ld_m C kd_118 ln_118 hg_10 dX10_nears_97 ?_
      refine zm_ishl C dX10_nears_98 ?_
      refine zm_ior C dX10_nears_99 ?_
      obtain ⟨hg_11, h⟩ := h
      refine zq_st_m C kd_125 ln_125 hg_11 dX10_nears_100 (fun u_12 hu_12 => ?_)
      have h := h u_12 hu_12
      obtain ⟨x1_13, hx1_13⟩ : ∃ z, z = x1 + (1 : Int32) := ⟨_, rfl⟩
      have h := h x1_13 hx1_13
      refine zm_iinc (v := x1_13) (lv' := [(1, .int x1_13), (0, .ref (g.2.2.1 117))]) C dX10_nears_101 1 rfl (by rw [hx1_13]; rfl) (by decide) rfl ?_
      refine zm_goto (tgt := 23) C dX10_nears_104 (by decide) ?_
      exact zm_sub [1, 0] rfl (ih _ _ h)
def wl_X10_nears_2 (Q : MU → Prop) : Nat → Int32 → MU → Prop
  | 0, _, _ => False
  | n + 1, x1, u => (((8 : Int32) ≤ x1) → ∃ nn, wl_X10_nears_23   Q nn (0 : Int32) u) ∧ ((¬ (8 : Int32) ≤ x1) → vp_in x1 8 ∧ (∀ u_3, u_3 = u2 u 125 (x1).toNatClampNeg (0 : Int32) → ∀ x1_4, x1_4 = x1 + (1 : Int32) → wl_X10_nears_2   Q n x1_4 u_3))
set_option maxHeartbeats 4000000 in
set_option maxRecDepth 100000 in
theorem vl_X10_nears_2 {p : Program} {l : Launch} {e : Env} {s : State} {m : MethodId} {args : Array Value} {below : List Frame} {meth : Method} {c : Code} {g : GE} {U : MU} {W : (Nat → Int64) × (Nat → UInt64)} {Q : MU → Prop} (C : zCx p l s m args meth c g RX10 cX10_nears 2) (hr : meth.sig.returnType = (Option.none : Option Jvm.ClassFile.FieldType)) : ∀ (n : Nat) (x1 : Int32) (u : MU) , wl_X10_nears_2   Q n x1 u → WM p l e rm_X10_nears s m args below meth c g 2 0 0 (MQ below (zQv g (zPmv U W Q)) args s 0 0 (zA g)) 2 [(0, .ref (g.2.2.1 117)), (1, .int x1)] [] (U, u, W) := by
  intro n
  induction n with
  | zero => intro _ _ h; exact h.elim
  | succ n ih =>
    intro x1 u h
    unfold wl_X10_nears_2 at h
    refine zm_iload_n C dX10_nears_2 rfl 1 rfl ?_
    refine zm_bipush (v := 8) C dX10_nears_3 (by decide) ?_
    refine zm_icmp_ge (tgt := 21) C dX10_nears_5 (by decide) (fun hc_1 => ?_) (fun hc_1 => ?_)
    · have h := h.1 hc_1
      refine zm_iconst (v := 0) C dX10_nears_21 (by decide) ?_
      refine zm_istore_n (lv' := [(1, .int (0 : Int32)), (0, .ref (g.2.2.1 117))]) C dX10_nears_22 rfl (by decide) rfl ?_
      obtain ⟨nn, h⟩ := h
      exact zm_sub [1, 0] rfl (vl_X10_nears_23 C hr  nn _ _ h)
    · have h := h.2 hc_1
      refine zm_aload_n C dX10_nears_8 rfl 0 rfl ?_
      refine gf_RX10_36 (k1 := 125) C kd_117 rfl dX10_nears_9 ?_
      refine zm_iload_n C dX10_nears_12 rfl 1 rfl ?_
      refine zm_iconst (v := 0) C dX10_nears_13 (by decide) ?_
      obtain ⟨hg_2, h⟩ := h
      refine zq_st_m C kd_125 ln_125 hg_2 dX10_nears_14 (fun u_3 hu_3 => ?_)
      have h := h u_3 hu_3
      obtain ⟨x1_4, hx1_4⟩ : ∃ z, z = x1 + (1 : Int32) := ⟨_, rfl⟩
      have h := h x1_4 hx1_4
      refine zm_iinc (v := x1_4) (lv' := [(1, .int x1_4), (0, .ref (g.2.2.1 117))]) C dX10_nears_15 1 rfl (by rw [hx1_4]; rfl) (by decide) rfl ?_
      refine zm_goto (tgt := 2) C dX10_nears_18 (by decide) ?_
      exact zm_sub [1, 0] rfl (ih _ _ h)
def w_X10_nears (u : MU) (Q : MU → Prop) : Prop := ∃ nn, wl_X10_nears_2   Q nn (0 : Int32) u
set_option maxHeartbeats 4000000 in
set_option maxRecDepth 100000 in
theorem c_X10_nears (l : Launch) (g : GE) (U : MU) (u : MU) (W : (Nat → Int64) × (Nat → UInt64)) {Q : MU → Prop} (h : w_X10_nears u Q) : Met l yX10_nears (.code yX10_nears cX10_nears 2 (Option.none : Option Jvm.ClassFile.FieldType) :: TB) rm_X10_nears (zPc g (U, u, W) [.ref (g.2.2.1 117)]) (zQv g (zPmv U W Q)) 0 0 (zA g) := by
  unfold w_X10_nears at h
  refine zMet (own := RX10) [(0, .ref (g.2.2.1 117))] (by decide +kernel) rfl (Nat.le_of_ble_eq_true rfl) rfl (fun p e s m args below meth c C hr => ?_)
  refine zm_iconst (v := 0) C dX10_nears_0 (by decide) ?_
  refine zm_istore_n (lv' := [(1, .int (0 : Int32)), (0, .ref (g.2.2.1 117))]) C dX10_nears_1 rfl (by decide) rfl ?_
  obtain ⟨nn, h⟩ := h
  exact zm_sub [1, 0] rfl (vl_X10_nears_2 C hr  nn _ _ h)
abbrev rm_X10_comes : Room := { frames := 1, cells := 0, slots := 0, locals := 21 }
def wb_X10_comes_123 (L35 : Int32 → Int32 → Int32 → Int32 → MU → Prop) (Q : MU → Prop) (x1 : Int32) (x2 : Int32) (x3 : Int32) (x4 : Int32) (u : MU) : Prop := ∀ x4_1, x4_1 = x4 + (1 : Int32) → L35 x1 x2 x3 x4_1 u
set_option maxHeartbeats 4000000 in
set_option maxRecDepth 100000 in
theorem vb_X10_comes_123 {p : Program} {l : Launch} {e : Env} {s : State} {m : MethodId} {args : Array Value} {below : List Frame} {meth : Method} {c : Code} {g : GE} {U : MU} {W : (Nat → Int64) × (Nat → UInt64)} {Q : MU → Prop} (C : zCx p l s m args meth c g RX10 cX10_comes 5) (hr : meth.sig.returnType = (Option.none : Option Jvm.ClassFile.FieldType)) {L35 : Int32 → Int32 → Int32 → Int32 → MU → Prop} (hL35 : ∀ (x1 : Int32) (x2 : Int32) (x3 : Int32) (x4 : Int32) (u : MU), L35 x1 x2 x3 x4 u → WM p l e rm_X10_comes s m args below meth c g 5 0 0 (MQ below (zQv g (zPmv U W Q)) args s 0 0 (zA g)) 35 [(0, .ref (g.2.2.1 117)), (1, .int x1), (2, .int x2), (3, .int x3), (4, .int x4)] [] (U, u, W)) (x1 : Int32) (x2 : Int32) (x3 : Int32) (x4 : Int32) (u : MU) (h : wb_X10_comes_123 L35  Q x1 x2 x3 x4 u) : WM p l e rm_X10_comes s m args below meth c g 5 0 0 (MQ below (zQv g (zPmv U W Q)) args s 0 0 (zA g)) 123 [(0, .ref (g.2.2.1 117)), (1, .int x1), (2, .int x2), (3, .int x3), (4, .int x4)] [] (U, u, W) := by
  unfold wb_X10_comes_123 at h
  obtain ⟨x4_1, hx4_1⟩ : ∃ z, z = x4 + (1 : Int32) := ⟨_, rfl⟩
  have h := h x4_1 hx4_1
  refine zm_iinc (v := x4_1) (lv' := [(4, .int x4_1), (0, .ref (g.2.2.1 117)), (1, .int x1), (2, .int x2), (3, .int x3)]) C dX10_comes_123 4 rfl (by rw [hx4_1]; rfl) (by decide) rfl ?_
  refine zm_goto (tgt := 35) C dX10_comes_126 (by decide) ?_
  exact zm_sub [1, 2, 3, 4, 0] rfl (hL35 _ _ _ _ _ h)
def wb_X10_comes_95 (L35 : Int32 → Int32 → Int32 → Int32 → MU → Prop) (Q : MU → Prop) (x1 : Int32) (x2 : Int32) (x3 : Int32) (x4 : Int32) (u : MU) : Prop := vp_in (u 117 25) 24 ∧ (∀ u_2, u_2 = u2 u 129 ((u 117 25)).toNatClampNeg x2 → (∀ u_3, u_3 = u2 u_2 117 25 ((u_2 117 25) + (1 : Int32)) → vp_in (u_2 117 25) 24 ∧ (∀ u_5, u_5 = u2 u_3 130 ((u_2 117 25)).toNatClampNeg x4 → wb_X10_comes_123 L35  Q x1 x2 x3 x4 u_5)))
set_option maxHeartbeats 4000000 in
set_option maxRecDepth 100000 in
theorem vb_X10_comes_95 {p : Program} {l : Launch} {e : Env} {s : State} {m : MethodId} {args : Array Value} {below : List Frame} {meth : Method} {c : Code} {g : GE} {U : MU} {W : (Nat → Int64) × (Nat → UInt64)} {Q : MU → Prop} (C : zCx p l s m args meth c g RX10 cX10_comes 5) (hr : meth.sig.returnType = (Option.none : Option Jvm.ClassFile.FieldType)) {L35 : Int32 → Int32 → Int32 → Int32 → MU → Prop} (hL35 : ∀ (x1 : Int32) (x2 : Int32) (x3 : Int32) (x4 : Int32) (u : MU), L35 x1 x2 x3 x4 u → WM p l e rm_X10_comes s m args below meth c g 5 0 0 (MQ below (zQv g (zPmv U W Q)) args s 0 0 (zA g)) 35 [(0, .ref (g.2.2.1 117)), (1, .int x1), (2, .int x2), (3, .int x3), (4, .int x4)] [] (U, u, W)) (x1 : Int32) (x2 : Int32) (x3 : Int32) (x4 : Int32) (u : MU) (h : wb_X10_comes_95 L35  Q x1 x2 x3 x4 u) : WM p l e rm_X10_comes s m args below meth c g 5 0 0 (MQ below (zQv g (zPmv U W Q)) args s 0 0 (zA g)) 95 [(0, .ref (g.2.2.1 117)), (1, .int x1), (2, .int x2), (3, .int x3), (4, .int x4)] [] (U, u, W) := by
  unfold wb_X10_comes_95 at h
  refine zm_aload_n C dX10_comes_95 rfl 0 rfl ?_
  refine gf_RX10_48 (k1 := 129) C kd_117 rfl dX10_comes_96 ?_
  refine zm_aload_n C dX10_comes_99 rfl 0 rfl ?_
  refine gf_RX10_103 C kd_117 dX10_comes_100 ?_
  refine zm_iload_n C dX10_comes_103 rfl 2 rfl ?_
  obtain ⟨hg_1, h⟩ := h
  refine zq_st_m C kd_129 ln_129 hg_1 dX10_comes_104 (fun u_2 hu_2 => ?_)
  have h := h u_2 hu_2
  refine zm_aload_n C dX10_comes_105 rfl 0 rfl ?_
  refine gf_RX10_51 (k1 := 130) C kd_117 rfl dX10_comes_106 ?_
  refine zm_aload_n C dX10_comes_109 rfl 0 rfl ?_
  refine zm_dup C dX10_comes_110 rfl ?_
  refine gf_RX10_103 C kd_117 dX10_comes_111 ?_
  refine zm_dup_x1 C dX10_comes_114 rfl rfl ?_
  refine zm_iconst (v := 1) C dX10_comes_115 (by decide) ?_
  refine zm_iadd C dX10_comes_116 ?_
  refine pf_RX10_103 C kd_117  dX10_comes_117 (fun u_3 hu_3 => ?_)
  have h := h u_3 hu_3
  refine zm_iload C dX10_comes_120 4 rfl ?_
  obtain ⟨hg_4, h⟩ := h
  refine zq_st_m C kd_130 ln_130 hg_4 dX10_comes_122 (fun u_5 hu_5 => ?_)
  have h := h u_5 hu_5
  exact zm_sub [0, 1, 2, 3, 4] rfl (vb_X10_comes_123 C hr hL35 _ _ _ _ _ h)
def wl_X10_comes_35 (Q : MU → Prop) : Nat → Int32 → Int32 → Int32 → Int32 → MU → Prop
  | 0, _, _, _, _, _ => False
  | n + 1, x1, x2, x3, x4, u => vp_in (0 : Int32) 119 ∧ ((((u 118 ((0 : Int32)).toNatClampNeg) ≤ x4) → Q u) ∧ ((¬ (u 118 ((0 : Int32)).toNatClampNeg) ≤ x4) → vp_in x2 8 ∧ ((((((u 125 (x2).toNatClampNeg) >>> (x4 &&& 31)) &&& (1 : Int32)) = 0) → wb_X10_comes_123 (fun x1' x2' x3' x4' u' => wl_X10_comes_35  Q n x1' x2' x3' x4' u')  Q x1 x2 x3 x4 u) ∧ ((¬ (((u 125 (x2).toNatClampNeg) >>> (x4 &&& 31)) &&& (1 : Int32)) = 0) → ((((x3 >>> (x4 &&& 31)) &&& (1 : Int32)) = (1 : Int32)) → wb_X10_comes_123 (fun x1' x2' x3' x4' u' => wl_X10_comes_35  Q n x1' x2' x3' x4' u')  Q x1 x2 x3 x4 u) ∧ ((¬ ((x3 >>> (x4 &&& 31)) &&& (1 : Int32)) = (1 : Int32)) → w_X10_isTrap u x4 (fun r_6 => ((¬ r_6 = 0) → wb_X10_comes_123 (fun x1' x2' x3' x4' u' => wl_X10_comes_35  Q n x1' x2' x3' x4' u')  Q x1 x2 x3 x4 u) ∧ ((r_6 = 0) → w_X10_isGeese x1 (fun r_9 => ((r_9 = 0) → wb_X10_comes_95 (fun x1' x2' x3' x4' u' => wl_X10_comes_35  Q n x1' x2' x3' x4' u')  Q x1 x2 x3 x4 u) ∧ ((¬ r_9 = 0) → ((x2 ≤ x4) → wb_X10_comes_95 (fun x1' x2' x3' x4' u' => wl_X10_comes_35  Q n x1' x2' x3' x4' u')  Q x1 x2 x3 x4 u) ∧ ((¬ x2 ≤ x4) → wb_X10_comes_123 (fun x1' x2' x3' x4' u' => wl_X10_comes_35  Q n x1' x2' x3' x4' u')  Q x1 x2 x3 x4 u))))))))))
set_option maxHeartbeats 4000000 in
set_option maxRecDepth 100000 in
theorem vl_X10_comes_35 {p : Program} {l : Launch} {e : Env} {s : State} {m : MethodId} {args : Array Value} {below : List Frame} {meth : Method} {c : Code} {g : GE} {U : MU} {W : (Nat → Int64) × (Nat → UInt64)} {Q : MU → Prop} (C : zCx p l s m args meth c g RX10 cX10_comes 5) (hr : meth.sig.returnType = (Option.none : Option Jvm.ClassFile.FieldType)) : ∀ (n : Nat) (x1 : Int32) (x2 : Int32) (x3 : Int32) (x4 : Int32) (u : MU) , wl_X10_comes_35   Q n x1 x2 x3 x4 u → WM p l e rm_X10_comes s m args below meth c g 5 0 0 (MQ below (zQv g (zPmv U W Q)) args s 0 0 (zA g)) 35 [(0, .ref (g.2.2.1 117)), (1, .int x1), (2, .int x2), (3, .int x3), (4, .int x4)] [] (U, u, W) := by
  intro n
  induction n with
  | zero => intro _ _ _ _ _ h; exact h.elim
  | succ n ih =>
    intro x1 x2 x3 x4 u h
    unfold wl_X10_comes_35 at h
    refine zm_iload C dX10_comes_35 4 rfl ?_
    refine zm_aload_n C dX10_comes_37 rfl 0 rfl ?_
    refine gf_RX10_9 (k1 := 118) C kd_117 rfl dX10_comes_38 ?_
    refine zm_iconst (v := 0) C dX10_comes_41 (by decide) ?_
    obtain ⟨hg_1, h⟩ := h
    refine zq_ld_m C kd_118 ln_118 hg_1 dX10_comes_42 ?_
    refine zm_icmp_ge (tgt := 129) C dX10_comes_43 (by decide) (fun hc_2 => ?_) (fun hc_2 => ?_)
    · have h := h.1 hc_2
      exact zm_vret C hr dX10_comes_129 ⟨_, rfl, h⟩
    · have h := h.2 hc_2
      refine zm_aload_n C dX10_comes_46 rfl 0 rfl ?_
      refine gf_RX10_36 (k1 := 125) C kd_117 rfl dX10_comes_47 ?_
      refine zm_iload_n C dX10_comes_50 rfl 2 rfl ?_
      obtain ⟨hg_3, h⟩ := h
      refine zq_ld_m C kd_125 ln_125 hg_3 dX10_comes_51 ?_
      refine zm_iload C dX10_comes_52 4 rfl ?_
      refine zm_ishr C dX10_comes_54 ?_
      refine zm_iconst (v := 1) C dX10_comes_55 (by decide) ?_
      refine zm_iand C dX10_comes_56 ?_
      refine zm_if_eq (tgt := 123) C dX10_comes_57 (by decide) (fun hc_4 => ?_) (fun hc_4 => ?_)
      · have h := h.1 hc_4
        exact zm_sub [0, 1, 2, 3, 4] rfl (vb_X10_comes_123 C hr ih _ _ _ _ _ h)
      · have h := h.2 hc_4
        refine zm_iload_n C dX10_comes_60 rfl 3 rfl ?_
        refine zm_iload C dX10_comes_61 4 rfl ?_
        refine zm_ishr C dX10_comes_63 ?_
        refine zm_iconst (v := 1) C dX10_comes_64 (by decide) ?_
        refine zm_iand C dX10_comes_65 ?_
        refine zm_iconst (v := 1) C dX10_comes_66 (by decide) ?_
        refine zm_icmp_eq (tgt := 123) C dX10_comes_67 (by decide) (fun hc_5 => ?_) (fun hc_5 => ?_)
        · have h := h.1 hc_5
          exact zm_sub [0, 1, 2, 3, 4] rfl (vb_X10_comes_123 C hr ih _ _ _ _ _ h)
        · have h := h.2 hc_5
          refine zm_aload_n C dX10_comes_70 rfl 0 rfl ?_
          refine zm_iload C dX10_comes_71 4 rfl ?_
          refine zm_ci (zr_V (As := [.int x4]) (rest := []) C (c_X10_isTrap l g U u W x4 h) wd_1247 wd_1249 wp_41 wd_11 wd_1250 hy_X10_isTrap rfl rfl ⟨by decide, by decide⟩ ⟨by decide, by decide⟩ (ci := 10) (by decide) (zCell_k kd_117) rfl rfl rfl rfl (Nat.le_of_ble_eq_true rfl) dX10_comes_73) (fun r_6 M1 hq => ?_)
          obtain ⟨rfl, h⟩ := hq
          refine zm_if_ne (tgt := 123) C dX10_comes_76 (by decide) (fun hc_8 => ?_) (fun hc_8 => ?_)
          · have h := h.1 hc_8
            exact zm_sub [0, 1, 2, 3, 4] rfl (vb_X10_comes_123 C hr ih _ _ _ _ _ h)
          · have h := h.2 hc_8
            refine zm_iload_n C dX10_comes_79 rfl 1 rfl ?_
            refine zm_ci (zr_S (As := [.int x1]) (rest := []) C (c_X10_isGeese l g (U, u, W) x1 h) wd_1293 wd_1294 wd_11 wd_1295 hy_X10_isGeese rfl rfl ⟨by decide, by decide⟩ ⟨by decide, by decide⟩ rfl rfl (Nat.le_of_ble_eq_true rfl) dX10_comes_80) (fun r_9 M1 hq => ?_)
            obtain ⟨rfl, h⟩ := hq
            refine zm_if_eq (tgt := 95) C dX10_comes_83 (by decide) (fun hc_11 => ?_) (fun hc_11 => ?_)
            · have h := h.1 hc_11
              exact zm_sub [0, 1, 2, 3, 4] rfl (vb_X10_comes_95 C hr ih _ _ _ _ _ h)
            · have h := h.2 hc_11
              refine zm_iload C dX10_comes_86 4 rfl ?_
              refine zm_iload_n C dX10_comes_88 rfl 2 rfl ?_
              refine zm_icmp_ge (tgt := 95) C dX10_comes_89 (by decide) (fun hc_12 => ?_) (fun hc_12 => ?_)
              · have h := h.1 hc_12
                exact zm_sub [0, 1, 2, 3, 4] rfl (vb_X10_comes_95 C hr ih _ _ _ _ _ h)
              · have h := h.2 hc_12
                refine zm_goto (tgt := 123) C dX10_comes_92 (by decide) ?_
                exact zm_sub [0, 1, 2, 3, 4] rfl (vb_X10_comes_123 C hr ih _ _ _ _ _ h)
def wb_X10_comes_30 (Q : MU → Prop) (x1 : Int32) (x2 : Int32) (s0 : Int32) (s1 : Int32) (u : MU) : Prop := ∀ x3_1, x3_1 = (s1 ||| s0) → ∃ nn, wl_X10_comes_35   Q nn x1 x2 x3_1 (0 : Int32) u
set_option maxHeartbeats 4000000 in
set_option maxRecDepth 100000 in
theorem vb_X10_comes_30 {p : Program} {l : Launch} {e : Env} {s : State} {m : MethodId} {args : Array Value} {below : List Frame} {meth : Method} {c : Code} {g : GE} {U : MU} {W : (Nat → Int64) × (Nat → UInt64)} {Q : MU → Prop} (C : zCx p l s m args meth c g RX10 cX10_comes 5) (hr : meth.sig.returnType = (Option.none : Option Jvm.ClassFile.FieldType)) (x1 : Int32) (x2 : Int32) (s0 : Int32) (s1 : Int32) (u : MU) (h : wb_X10_comes_30   Q x1 x2 s0 s1 u) : WM p l e rm_X10_comes s m args below meth c g 5 0 0 (MQ below (zQv g (zPmv U W Q)) args s 0 0 (zA g)) 30 [(0, .ref (g.2.2.1 117)), (1, .int x1), (2, .int x2)] [.int s0, .int s1] (U, u, W) := by
  unfold wb_X10_comes_30 at h
  refine zm_ior C dX10_comes_30 ?_
  refine zm_nmI (fun x3_1 hx3_1 => ?_)
  have h := h x3_1 hx3_1
  refine zm_istore_n (lv' := [(3, .int x3_1), (0, .ref (g.2.2.1 117)), (1, .int x1), (2, .int x2)]) C dX10_comes_31 rfl (by decide) rfl ?_
  refine zm_iconst (v := 0) C dX10_comes_32 (by decide) ?_
  refine zm_istore (lv' := [(4, .int (0 : Int32)), (3, .int x3_1), (0, .ref (g.2.2.1 117)), (1, .int x1), (2, .int x2)]) C dX10_comes_33 (by decide) rfl ?_
  obtain ⟨nn, h⟩ := h
  exact zm_sub [2, 3, 4, 1, 0] rfl (vl_X10_comes_35 C hr  nn _ _ _ _ _ h)
def w_X10_comes (x1 : Int32) (x2 : Int32) (u : MU) (Q : MU → Prop) : Prop := w_X10_fox x1 (fun r_1 => w_X10_first x1 (fun r_3 => w_X10_second x1 (fun r_5 => ((0 ≤ r_5) → w_X10_second x1 (fun r_8 => wb_X10_comes_30   Q x1 x2 ((1 : Int32) <<< (r_8 &&& 31)) (((1 : Int32) <<< (r_1 &&& 31)) ||| ((1 : Int32) <<< (r_3 &&& 31))) u)) ∧ ((¬ 0 ≤ r_5) → wb_X10_comes_30   Q x1 x2 (0 : Int32) (((1 : Int32) <<< (r_1 &&& 31)) ||| ((1 : Int32) <<< (r_3 &&& 31))) u))))
set_option maxHeartbeats 4000000 in
set_option maxRecDepth 100000 in
theorem c_X10_comes (l : Launch) (g : GE) (U : MU) (u : MU) (W : (Nat → Int64) × (Nat → UInt64)) (x1 : Int32) (x2 : Int32) {Q : MU → Prop} (h : w_X10_comes x1 x2 u Q) : Met l yX10_comes (.code yX10_comes cX10_comes 5 (Option.none : Option Jvm.ClassFile.FieldType) :: TB) rm_X10_comes (zPc g (U, u, W) [.ref (g.2.2.1 117), .int x1, .int x2]) (zQv g (zPmv U W Q)) 0 0 (zA g) := by
  unfold w_X10_comes at h
  refine zMet (own := RX10) [(0, .ref (g.2.2.1 117)), (1, .int x1), (2, .int x2)] (by decide +kernel) rfl (Nat.le_of_ble_eq_true rfl) rfl (fun p e s m args below meth c C hr => ?_)
  refine zm_iconst (v := 1) C dX10_comes_0 (by decide) ?_
  refine zm_iload_n C dX10_comes_1 rfl 1 rfl ?_
  refine zm_ci (zr_S (As := [.int x1]) (rest := [.int (1 : Int32)]) C (c_X10_fox l g (U, u, W) x1 h) wd_1272 wd_1273 wd_11 wd_1274 hy_X10_fox rfl rfl ⟨by decide, by decide⟩ ⟨by decide, by decide⟩ rfl rfl (Nat.le_of_ble_eq_true rfl) dX10_comes_2) (fun r_1 M1 hq => ?_)
  obtain ⟨rfl, h⟩ := hq
  refine zm_ishl C dX10_comes_5 ?_
  refine zm_iconst (v := 1) C dX10_comes_6 (by decide) ?_
  refine zm_iload_n C dX10_comes_7 rfl 1 rfl ?_
  refine zm_ci (zr_S (As := [.int x1]) (rest := [.int (1 : Int32), .int ((1 : Int32) <<< (r_1 &&& 31))]) C (c_X10_first l g (U, u, W) x1 h) wd_1275 wd_1276 wd_11 wd_1277 hy_X10_first rfl rfl ⟨by decide, by decide⟩ ⟨by decide, by decide⟩ rfl rfl (Nat.le_of_ble_eq_true rfl) dX10_comes_8) (fun r_3 M1 hq => ?_)
  obtain ⟨rfl, h⟩ := hq
  refine zm_ishl C dX10_comes_11 ?_
  refine zm_ior C dX10_comes_12 ?_
  refine zm_iload_n C dX10_comes_13 rfl 1 rfl ?_
  refine zm_ci (zr_S (As := [.int x1]) (rest := [.int (((1 : Int32) <<< (r_1 &&& 31)) ||| ((1 : Int32) <<< (r_3 &&& 31)))]) C (c_X10_second l g (U, u, W) x1 h) wd_1278 wd_1279 wd_11 wd_1280 hy_X10_second rfl rfl ⟨by decide, by decide⟩ ⟨by decide, by decide⟩ rfl rfl (Nat.le_of_ble_eq_true rfl) dX10_comes_14) (fun r_5 M1 hq => ?_)
  obtain ⟨rfl, h⟩ := hq
  refine zm_if_ge (tgt := 24) C dX10_comes_17 (by decide) (fun hc_7 => ?_) (fun hc_7 => ?_)
  · have h := h.1 hc_7
    refine zm_iconst (v := 1) C dX10_comes_24 (by decide) ?_
    refine zm_iload_n C dX10_comes_25 rfl 1 rfl ?_
    refine zm_ci (zr_S (As := [.int x1]) (rest := [.int (1 : Int32), .int (((1 : Int32) <<< (r_1 &&& 31)) ||| ((1 : Int32) <<< (r_3 &&& 31)))]) C (c_X10_second l g (U, u, W) x1 h) wd_1278 wd_1279 wd_11 wd_1280 hy_X10_second rfl rfl ⟨by decide, by decide⟩ ⟨by decide, by decide⟩ rfl rfl (Nat.le_of_ble_eq_true rfl) dX10_comes_26) (fun r_8 M1 hq => ?_)
    obtain ⟨rfl, h⟩ := hq
    refine zm_ishl C dX10_comes_29 ?_
    exact zm_sub [0, 1, 2] rfl (vb_X10_comes_30 C hr  _ _ _ _ _ h)
  · have h := h.2 hc_7
    refine zm_iconst (v := 0) C dX10_comes_20 (by decide) ?_
    refine zm_goto (tgt := 30) C dX10_comes_21 (by decide) ?_
    exact zm_sub [0, 1, 2] rfl (vb_X10_comes_30 C hr  _ _ _ _ _ h)
abbrev rm_X10_finds : Room := { frames := 2, cells := 0, slots := 0, locals := 45 }
def wb_X10_finds_37 (Q : MU → Prop) (x1 : Int32) (u : MU) : Prop := w_X10_isGeese x1 (fun r_1 => ((r_1 = 0) → Q u) ∧ ((¬ r_1 = 0) → w_X10_second x1 (fun r_4 => ((r_4 < 0) → Q u) ∧ ((¬ r_4 < 0) → w_X10_second x1 (fun r_7 => w_X10_comes x1 r_7 u (fun u_10 => Q u_10))))))
set_option maxHeartbeats 4000000 in
set_option maxRecDepth 100000 in
theorem vb_X10_finds_37 {p : Program} {l : Launch} {e : Env} {s : State} {m : MethodId} {args : Array Value} {below : List Frame} {meth : Method} {c : Code} {g : GE} {U : MU} {W : (Nat → Int64) × (Nat → UInt64)} {Q : MU → Prop} (C : zCx p l s m args meth c g RX10 cX10_finds 2) (hr : meth.sig.returnType = (Option.none : Option Jvm.ClassFile.FieldType)) (x1 : Int32) (u : MU) (h : wb_X10_finds_37   Q x1 u) : WM p l e rm_X10_finds s m args below meth c g 2 0 0 (MQ below (zQv g (zPmv U W Q)) args s 0 0 (zA g)) 37 [(0, .ref (g.2.2.1 117)), (1, .int x1)] [] (U, u, W) := by
  unfold wb_X10_finds_37 at h
  refine zm_iload_n C dX10_finds_37 rfl 1 rfl ?_
  refine zm_ci (zr_S (As := [.int x1]) (rest := []) C (c_X10_isGeese l g (U, u, W) x1 h) wd_1293 wd_1294 wd_11 wd_1295 hy_X10_isGeese rfl rfl ⟨by decide, by decide⟩ ⟨by decide, by decide⟩ rfl rfl (Nat.le_of_ble_eq_true rfl) dX10_finds_38) (fun r_1 M1 hq => ?_)
  obtain ⟨rfl, h⟩ := hq
  refine zm_if_eq (tgt := 60) C dX10_finds_41 (by decide) (fun hc_3 => ?_) (fun hc_3 => ?_)
  · have h := h.1 hc_3
    exact zm_vret C hr dX10_finds_60 ⟨_, rfl, h⟩
  · have h := h.2 hc_3
    refine zm_iload_n C dX10_finds_44 rfl 1 rfl ?_
    refine zm_ci (zr_S (As := [.int x1]) (rest := []) C (c_X10_second l g (U, u, W) x1 h) wd_1278 wd_1279 wd_11 wd_1280 hy_X10_second rfl rfl ⟨by decide, by decide⟩ ⟨by decide, by decide⟩ rfl rfl (Nat.le_of_ble_eq_true rfl) dX10_finds_45) (fun r_4 M1 hq => ?_)
    obtain ⟨rfl, h⟩ := hq
    refine zm_if_lt (tgt := 60) C dX10_finds_48 (by decide) (fun hc_6 => ?_) (fun hc_6 => ?_)
    · have h := h.1 hc_6
      exact zm_vret C hr dX10_finds_60 ⟨_, rfl, h⟩
    · have h := h.2 hc_6
      refine zm_aload_n C dX10_finds_51 rfl 0 rfl ?_
      refine zm_iload_n C dX10_finds_52 rfl 1 rfl ?_
      refine zm_iload_n C dX10_finds_53 rfl 1 rfl ?_
      refine zm_ci (zr_S (As := [.int x1]) (rest := [.int x1, .ref (g.2.2.1 117)]) C (c_X10_second l g (U, u, W) x1 h) wd_1278 wd_1279 wd_11 wd_1280 hy_X10_second rfl rfl ⟨by decide, by decide⟩ ⟨by decide, by decide⟩ rfl rfl (Nat.le_of_ble_eq_true rfl) dX10_finds_54) (fun r_7 M1 hq => ?_)
      obtain ⟨rfl, h⟩ := hq
      refine zm_cv (zr_V (As := [.int x1, .int r_7]) (rest := []) C (c_X10_comes l g U u W x1 r_7 h) wd_1296 wd_1298 wp_48 wd_11 wd_1299 hy_X10_comes rfl rfl ⟨by decide, by decide⟩ ⟨by decide, by decide⟩ (ci := 10) (by decide) (zCell_k kd_117) rfl rfl rfl rfl (Nat.le_of_ble_eq_true rfl) dX10_finds_57) (fun M1 hq => ?_)
      obtain ⟨u_10, rfl, h⟩ := hq
      exact zm_vret C hr dX10_finds_60 ⟨_, rfl, h⟩
def wb_X10_finds_21 (Q : MU → Prop) (x1 : Int32) (u : MU) : Prop := w_X10_isGeese x1 (fun r_1 => ((r_1 = 0) → wb_X10_finds_37   Q x1 u) ∧ ((¬ r_1 = 0) → w_X10_first x1 (fun r_4 => w_X10_comes x1 r_4 u (fun u_7 => wb_X10_finds_37   Q x1 u_7))))
set_option maxHeartbeats 4000000 in
set_option maxRecDepth 100000 in
theorem vb_X10_finds_21 {p : Program} {l : Launch} {e : Env} {s : State} {m : MethodId} {args : Array Value} {below : List Frame} {meth : Method} {c : Code} {g : GE} {U : MU} {W : (Nat → Int64) × (Nat → UInt64)} {Q : MU → Prop} (C : zCx p l s m args meth c g RX10 cX10_finds 2) (hr : meth.sig.returnType = (Option.none : Option Jvm.ClassFile.FieldType)) (x1 : Int32) (u : MU) (h : wb_X10_finds_21   Q x1 u) : WM p l e rm_X10_finds s m args below meth c g 2 0 0 (MQ below (zQv g (zPmv U W Q)) args s 0 0 (zA g)) 21 [(0, .ref (g.2.2.1 117)), (1, .int x1)] [] (U, u, W) := by
  unfold wb_X10_finds_21 at h
  refine zm_iload_n C dX10_finds_21 rfl 1 rfl ?_
  refine zm_ci (zr_S (As := [.int x1]) (rest := []) C (c_X10_isGeese l g (U, u, W) x1 h) wd_1293 wd_1294 wd_11 wd_1295 hy_X10_isGeese rfl rfl ⟨by decide, by decide⟩ ⟨by decide, by decide⟩ rfl rfl (Nat.le_of_ble_eq_true rfl) dX10_finds_22) (fun r_1 M1 hq => ?_)
  obtain ⟨rfl, h⟩ := hq
  refine zm_if_eq (tgt := 37) C dX10_finds_25 (by decide) (fun hc_3 => ?_) (fun hc_3 => ?_)
  · have h := h.1 hc_3
    exact zm_sub [0, 1] rfl (vb_X10_finds_37 C hr  _ _ h)
  · have h := h.2 hc_3
    refine zm_aload_n C dX10_finds_28 rfl 0 rfl ?_
    refine zm_iload_n C dX10_finds_29 rfl 1 rfl ?_
    refine zm_iload_n C dX10_finds_30 rfl 1 rfl ?_
    refine zm_ci (zr_S (As := [.int x1]) (rest := [.int x1, .ref (g.2.2.1 117)]) C (c_X10_first l g (U, u, W) x1 h) wd_1275 wd_1276 wd_11 wd_1277 hy_X10_first rfl rfl ⟨by decide, by decide⟩ ⟨by decide, by decide⟩ rfl rfl (Nat.le_of_ble_eq_true rfl) dX10_finds_31) (fun r_4 M1 hq => ?_)
    obtain ⟨rfl, h⟩ := hq
    refine zm_cv (zr_V (As := [.int x1, .int r_4]) (rest := []) C (c_X10_comes l g U u W x1 r_4 h) wd_1296 wd_1298 wp_48 wd_11 wd_1299 hy_X10_comes rfl rfl ⟨by decide, by decide⟩ ⟨by decide, by decide⟩ (ci := 10) (by decide) (zCell_k kd_117) rfl rfl rfl rfl (Nat.le_of_ble_eq_true rfl) dX10_finds_34) (fun M1 hq => ?_)
    obtain ⟨u_7, rfl, h⟩ := hq
    exact zm_sub [0, 1] rfl (vb_X10_finds_37 C hr  _ _ h)
def w_X10_finds (x1 : Int32) (u : MU) (Q : MU → Prop) : Prop := (∀ u_1, u_1 = u2 u 117 25 (0 : Int32) → w_X10_isGeese x1 (fun r_2 => ((¬ r_2 = 0) → wb_X10_finds_21   Q x1 u_1) ∧ ((r_2 = 0) → w_X10_fox x1 (fun r_5 => w_X10_comes x1 r_5 u_1 (fun u_8 => wb_X10_finds_21   Q x1 u_8)))))
set_option maxHeartbeats 4000000 in
set_option maxRecDepth 100000 in
theorem c_X10_finds (l : Launch) (g : GE) (U : MU) (u : MU) (W : (Nat → Int64) × (Nat → UInt64)) (x1 : Int32) {Q : MU → Prop} (h : w_X10_finds x1 u Q) : Met l yX10_finds (.code yX10_finds cX10_finds 2 (Option.none : Option Jvm.ClassFile.FieldType) :: TB) rm_X10_finds (zPc g (U, u, W) [.ref (g.2.2.1 117), .int x1]) (zQv g (zPmv U W Q)) 0 0 (zA g) := by
  unfold w_X10_finds at h
  refine zMet (own := RX10) [(0, .ref (g.2.2.1 117)), (1, .int x1)] (by decide +kernel) rfl (Nat.le_of_ble_eq_true rfl) rfl (fun p e s m args below meth c C hr => ?_)
  refine zm_aload_n C dX10_finds_0 rfl 0 rfl ?_
  refine zm_iconst (v := 0) C dX10_finds_1 (by decide) ?_
  refine pf_RX10_103 C kd_117  dX10_finds_2 (fun u_1 hu_1 => ?_)
  have h := h u_1 hu_1
  refine zm_iload_n C dX10_finds_5 rfl 1 rfl ?_
  refine zm_ci (zr_S (As := [.int x1]) (rest := []) C (c_X10_isGeese l g (U, u_1, W) x1 h) wd_1293 wd_1294 wd_11 wd_1295 hy_X10_isGeese rfl rfl ⟨by decide, by decide⟩ ⟨by decide, by decide⟩ rfl rfl (Nat.le_of_ble_eq_true rfl) dX10_finds_6) (fun r_2 M1 hq => ?_)
  obtain ⟨rfl, h⟩ := hq
  refine zm_if_ne (tgt := 21) C dX10_finds_9 (by decide) (fun hc_4 => ?_) (fun hc_4 => ?_)
  · have h := h.1 hc_4
    exact zm_sub [0, 1] rfl (vb_X10_finds_21 C hr  _ _ h)
  · have h := h.2 hc_4
    refine zm_aload_n C dX10_finds_12 rfl 0 rfl ?_
    refine zm_iload_n C dX10_finds_13 rfl 1 rfl ?_
    refine zm_iload_n C dX10_finds_14 rfl 1 rfl ?_
    refine zm_ci (zr_S (As := [.int x1]) (rest := [.int x1, .ref (g.2.2.1 117)]) C (c_X10_fox l g (U, u_1, W) x1 h) wd_1272 wd_1273 wd_11 wd_1274 hy_X10_fox rfl rfl ⟨by decide, by decide⟩ ⟨by decide, by decide⟩ rfl rfl (Nat.le_of_ble_eq_true rfl) dX10_finds_15) (fun r_5 M1 hq => ?_)
    obtain ⟨rfl, h⟩ := hq
    refine zm_cv (zr_V (As := [.int x1, .int r_5]) (rest := []) C (c_X10_comes l g U u_1 W x1 r_5 h) wd_1296 wd_1298 wp_48 wd_11 wd_1299 hy_X10_comes rfl rfl ⟨by decide, by decide⟩ ⟨by decide, by decide⟩ (ci := 10) (by decide) (zCell_k kd_117) rfl rfl rfl rfl (Nat.le_of_ble_eq_true rfl) dX10_finds_18) (fun M1 hq => ?_)
    obtain ⟨u_8, rfl, h⟩ := hq
    exact zm_sub [0, 1] rfl (vb_X10_finds_21 C hr  _ _ h)
abbrev rm_X10_behind : Room := { frames := 1, cells := 0, slots := 0, locals := 23 }
def wb_X10_behind_54 (Q : Int32 → Prop) (x0 : Int32) (x3 : Int32) (s0 : Int32) : Prop := ((0 ≤ s0) → w_X10_fox x0 (fun r_2 => w_X10_numberOf r_2 (if s0 < x3 then s0 else x3) (if x3 < s0 then s0 else x3) (0 : Int32) (fun r_4 => Q r_4))) ∧ ((¬ 0 ≤ s0) → w_X10_fox x0 (fun r_6 => w_X10_numberOf r_6 x3 s0 (0 : Int32) (fun r_8 => Q r_8)))
set_option maxHeartbeats 4000000 in
set_option maxRecDepth 100000 in
theorem vb_X10_behind_54 {p : Program} {l : Launch} {e : Env} {s : State} {m : MethodId} {args : Array Value} {below : List Frame} {meth : Method} {c : Code} {g : GE} {M : Mem} {Q : Int32 → Prop} (C : zCx p l s m args meth c g RX10 cX10_behind 5) (hr : meth.sig.returnType = (Option.some Jvm.ClassFile.FieldType.int)) (x0 : Int32) (x3 : Int32) (s0 : Int32) (h : wb_X10_behind_54   Q x0 x3 s0) : WM p l e rm_X10_behind s m args below meth c g 5 0 0 (MQ below (zQi g (zP0 M Q)) args s 0 0 (zA g)) 54 [(0, .int x0), (3, .int x3)] [.int s0] M := by
  unfold wb_X10_behind_54 at h
  refine zm_istore (lv' := [(4, .int s0), (0, .int x0), (3, .int x3)]) C dX10_behind_54 (by decide) rfl ?_
  refine zm_iload C dX10_behind_56 0 rfl ?_
  refine zm_if_ge (tgt := 75) C dX10_behind_58 (by decide) (fun hc_1 => ?_) (fun hc_1 => ?_)
  · have h := h.1 hc_1
    refine zm_iload_n C dX10_behind_75 rfl 1 rfl ?_
    refine zm_ci (zr_S (As := [.int x0]) (rest := []) C (c_X10_fox l g M x0 h) wd_1272 wd_1273 wd_11 wd_1274 hy_X10_fox rfl rfl ⟨by decide, by decide⟩ ⟨by decide, by decide⟩ rfl rfl (Nat.le_of_ble_eq_true rfl) dX10_behind_76) (fun r_2 M1 hq => ?_)
    obtain ⟨rfl, h⟩ := hq
    refine zm_iload_n C dX10_behind_79 rfl 2 rfl ?_
    refine zm_iload C dX10_behind_80 0 rfl ?_
    refine zm_mmin C wd_1318 wd_333 wd_12 wd_334 (Nat.le_of_ble_eq_true rfl) (Nat.le_of_ble_eq_true rfl) (Nat.le_of_ble_eq_true rfl) (Nat.le_of_ble_eq_true rfl) dX10_behind_82 ?_
    refine zm_iload_n C dX10_behind_85 rfl 2 rfl ?_
    refine zm_iload C dX10_behind_86 0 rfl ?_
    refine zm_mmax C wd_1319 wd_632 wd_12 wd_633 (Nat.le_of_ble_eq_true rfl) (Nat.le_of_ble_eq_true rfl) (Nat.le_of_ble_eq_true rfl) (Nat.le_of_ble_eq_true rfl) dX10_behind_88 ?_
    refine zm_iconst (v := 0) C dX10_behind_91 (by decide) ?_
    refine zm_ci (zr_S (As := [.int r_2, .int (if s0 < x3 then s0 else x3), .int (if x3 < s0 then s0 else x3), .int (0 : Int32)]) (rest := []) C (c_X10_numberOf l g M r_2 (if s0 < x3 then s0 else x3) (if x3 < s0 then s0 else x3) (0 : Int32) h) wd_1315 wd_1316 wd_11 wd_1317 hy_X10_numberOf rfl rfl ⟨by decide, by decide⟩ ⟨by decide, by decide⟩ rfl rfl (Nat.le_of_ble_eq_true rfl) dX10_behind_92) (fun r_4 M1 hq => ?_)
    obtain ⟨rfl, h⟩ := hq
    exact zm_iret C hr dX10_behind_95 ⟨rfl, h⟩
  · have h := h.2 hc_1
    refine zm_iload_n C dX10_behind_61 rfl 1 rfl ?_
    refine zm_ci (zr_S (As := [.int x0]) (rest := []) C (c_X10_fox l g M x0 h) wd_1272 wd_1273 wd_11 wd_1274 hy_X10_fox rfl rfl ⟨by decide, by decide⟩ ⟨by decide, by decide⟩ rfl rfl (Nat.le_of_ble_eq_true rfl) dX10_behind_62) (fun r_6 M1 hq => ?_)
    obtain ⟨rfl, h⟩ := hq
    refine zm_iload_n C dX10_behind_65 rfl 2 rfl ?_
    refine zm_iload C dX10_behind_66 0 rfl ?_
    refine zm_iconst (v := 0) C dX10_behind_68 (by decide) ?_
    refine zm_ci (zr_S (As := [.int r_6, .int x3, .int s0, .int (0 : Int32)]) (rest := []) C (c_X10_numberOf l g M r_6 x3 s0 (0 : Int32) h) wd_1315 wd_1316 wd_11 wd_1317 hy_X10_numberOf rfl rfl ⟨by decide, by decide⟩ ⟨by decide, by decide⟩ rfl rfl (Nat.le_of_ble_eq_true rfl) dX10_behind_69) (fun r_8 M1 hq => ?_)
    obtain ⟨rfl, h⟩ := hq
    refine zm_goto (tgt := 95) C dX10_behind_72 (by decide) ?_
    exact zm_iret C hr dX10_behind_95 ⟨rfl, h⟩
def wb_X10_behind_37 (Q : Int32 → Prop) (x0 : Int32) (x1 : Int32) (x2 : Int32) (s0 : Int32) : Prop := w_X10_second x0 (fun r_1 => ((¬ r_1 = x1) → w_X10_second x0 (fun r_4 => wb_X10_behind_54   Q x0 s0 r_4)) ∧ ((r_1 = x1) → wb_X10_behind_54   Q x0 s0 x2))
set_option maxHeartbeats 4000000 in
set_option maxRecDepth 100000 in
theorem vb_X10_behind_37 {p : Program} {l : Launch} {e : Env} {s : State} {m : MethodId} {args : Array Value} {below : List Frame} {meth : Method} {c : Code} {g : GE} {M : Mem} {Q : Int32 → Prop} (C : zCx p l s m args meth c g RX10 cX10_behind 5) (hr : meth.sig.returnType = (Option.some Jvm.ClassFile.FieldType.int)) (x0 : Int32) (x1 : Int32) (x2 : Int32) (s0 : Int32) (h : wb_X10_behind_37   Q x0 x1 x2 s0) : WM p l e rm_X10_behind s m args below meth c g 5 0 0 (MQ below (zQi g (zP0 M Q)) args s 0 0 (zA g)) 37 [(0, .int x0), (1, .int x1), (2, .int x2)] [.int s0] M := by
  unfold wb_X10_behind_37 at h
  refine zm_istore_n (lv' := [(3, .int s0), (0, .int x0), (1, .int x1), (2, .int x2)]) C dX10_behind_37 rfl (by decide) rfl ?_
  refine zm_iload_n C dX10_behind_38 rfl 1 rfl ?_
  refine zm_ci (zr_S (As := [.int x0]) (rest := []) C (c_X10_second l g M x0 h) wd_1278 wd_1279 wd_11 wd_1280 hy_X10_second rfl rfl ⟨by decide, by decide⟩ ⟨by decide, by decide⟩ rfl rfl (Nat.le_of_ble_eq_true rfl) dX10_behind_39) (fun r_1 M1 hq => ?_)
  obtain ⟨rfl, h⟩ := hq
  refine zm_iload_n C dX10_behind_42 rfl 2 rfl ?_
  refine zm_icmp_ne (tgt := 50) C dX10_behind_43 (by decide) (fun hc_3 => ?_) (fun hc_3 => ?_)
  · have h := h.1 hc_3
    refine zm_iload_n C dX10_behind_50 rfl 1 rfl ?_
    refine zm_ci (zr_S (As := [.int x0]) (rest := []) C (c_X10_second l g M x0 h) wd_1278 wd_1279 wd_11 wd_1280 hy_X10_second rfl rfl ⟨by decide, by decide⟩ ⟨by decide, by decide⟩ rfl rfl (Nat.le_of_ble_eq_true rfl) dX10_behind_51) (fun r_4 M1 hq => ?_)
    obtain ⟨rfl, h⟩ := hq
    exact zm_sub [1, 0] rfl (vb_X10_behind_54 C hr  _ _ _ h)
  · have h := h.2 hc_3
    refine zm_iload_n C dX10_behind_46 rfl 3 rfl ?_
    refine zm_goto (tgt := 54) C dX10_behind_47 (by decide) ?_
    exact zm_sub [1, 0] rfl (vb_X10_behind_54 C hr  _ _ _ h)
def w_X10_behind (x0 : Int32) (x1 : Int32) (x2 : Int32) (Q : Int32 → Prop) : Prop := w_X10_isGeese x0 (fun r_1 => ((¬ r_1 = 0) → w_X10_first x0 (fun r_4 => ((¬ r_4 = x1) → w_X10_first x0 (fun r_7 => wb_X10_behind_37   Q x0 x1 x2 r_7)) ∧ ((r_4 = x1) → wb_X10_behind_37   Q x0 x1 x2 x2))) ∧ ((r_1 = 0) → w_X10_first x0 (fun r_9 => w_X10_second x0 (fun r_11 => w_X10_numberOf x2 r_9 r_11 (1 : Int32) (fun r_13 => Q r_13)))))
set_option maxHeartbeats 4000000 in
set_option maxRecDepth 100000 in
theorem c_X10_behind (l : Launch) (g : GE) (M : Mem) (x0 : Int32) (x1 : Int32) (x2 : Int32) {Q : Int32 → Prop} (h : w_X10_behind x0 x1 x2 Q) : Met l yX10_behind (.code yX10_behind cX10_behind 5 (Option.some Jvm.ClassFile.FieldType.int) :: TB) rm_X10_behind (zPc g M [.int x0, .int x1, .int x2]) (zQi g (zP0 M Q)) 0 0 (zA g) := by
  unfold w_X10_behind at h
  refine zMet (own := RX10) [(0, .int x0), (1, .int x1), (2, .int x2)] (by decide +kernel) rfl (Nat.le_of_ble_eq_true rfl) rfl (fun p e s m args below meth c C hr => ?_)
  refine zm_iload_n C dX10_behind_0 rfl 0 rfl ?_
  refine zm_ci (zr_S (As := [.int x0]) (rest := []) C (c_X10_isGeese l g M x0 h) wd_1293 wd_1294 wd_11 wd_1295 hy_X10_isGeese rfl rfl ⟨by decide, by decide⟩ ⟨by decide, by decide⟩ rfl rfl (Nat.le_of_ble_eq_true rfl) dX10_behind_1) (fun r_1 M1 hq => ?_)
  obtain ⟨rfl, h⟩ := hq
  refine zm_if_ne (tgt := 21) C dX10_behind_4 (by decide) (fun hc_3 => ?_) (fun hc_3 => ?_)
  · have h := h.1 hc_3
    refine zm_iload_n C dX10_behind_21 rfl 0 rfl ?_
    refine zm_ci (zr_S (As := [.int x0]) (rest := []) C (c_X10_first l g M x0 h) wd_1275 wd_1276 wd_11 wd_1277 hy_X10_first rfl rfl ⟨by decide, by decide⟩ ⟨by decide, by decide⟩ rfl rfl (Nat.le_of_ble_eq_true rfl) dX10_behind_22) (fun r_4 M1 hq => ?_)
    obtain ⟨rfl, h⟩ := hq
    refine zm_iload_n C dX10_behind_25 rfl 1 rfl ?_
    refine zm_icmp_ne (tgt := 33) C dX10_behind_26 (by decide) (fun hc_6 => ?_) (fun hc_6 => ?_)
    · have h := h.1 hc_6
      refine zm_iload_n C dX10_behind_33 rfl 0 rfl ?_
      refine zm_ci (zr_S (As := [.int x0]) (rest := []) C (c_X10_first l g M x0 h) wd_1275 wd_1276 wd_11 wd_1277 hy_X10_first rfl rfl ⟨by decide, by decide⟩ ⟨by decide, by decide⟩ rfl rfl (Nat.le_of_ble_eq_true rfl) dX10_behind_34) (fun r_7 M1 hq => ?_)
      obtain ⟨rfl, h⟩ := hq
      exact zm_sub [0, 1, 2] rfl (vb_X10_behind_37 C hr  _ _ _ _ h)
    · have h := h.2 hc_6
      refine zm_iload_n C dX10_behind_29 rfl 2 rfl ?_
      refine zm_goto (tgt := 37) C dX10_behind_30 (by decide) ?_
      exact zm_sub [0, 1, 2] rfl (vb_X10_behind_37 C hr  _ _ _ _ h)
  · have h := h.2 hc_3
    refine zm_iload_n C dX10_behind_7 rfl 2 rfl ?_
    refine zm_iload_n C dX10_behind_8 rfl 0 rfl ?_
    refine zm_ci (zr_S (As := [.int x0]) (rest := [.int x2]) C (c_X10_first l g M x0 h) wd_1275 wd_1276 wd_11 wd_1277 hy_X10_first rfl rfl ⟨by decide, by decide⟩ ⟨by decide, by decide⟩ rfl rfl (Nat.le_of_ble_eq_true rfl) dX10_behind_9) (fun r_9 M1 hq => ?_)
    obtain ⟨rfl, h⟩ := hq
    refine zm_iload_n C dX10_behind_12 rfl 0 rfl ?_
    refine zm_ci (zr_S (As := [.int x0]) (rest := [.int r_9, .int x2]) C (c_X10_second l g M x0 h) wd_1278 wd_1279 wd_11 wd_1280 hy_X10_second rfl rfl ⟨by decide, by decide⟩ ⟨by decide, by decide⟩ rfl rfl (Nat.le_of_ble_eq_true rfl) dX10_behind_13) (fun r_11 M1 hq => ?_)
    obtain ⟨rfl, h⟩ := hq
    refine zm_iconst (v := 1) C dX10_behind_16 (by decide) ?_
    refine zm_ci (zr_S (As := [.int x2, .int r_9, .int r_11, .int (1 : Int32)]) (rest := []) C (c_X10_numberOf l g M x2 r_9 r_11 (1 : Int32) h) wd_1315 wd_1316 wd_11 wd_1317 hy_X10_numberOf rfl rfl ⟨by decide, by decide⟩ ⟨by decide, by decide⟩ rfl rfl (Nat.le_of_ble_eq_true rfl) dX10_behind_17) (fun r_13 M1 hq => ?_)
    obtain ⟨rfl, h⟩ := hq
    exact zm_iret C hr dX10_behind_20 ⟨rfl, h⟩
abbrev rm_X10_looks : Room := { frames := 4, cells := 0, slots := 0, locals := 87 }
def wb_X10_looks_240 (L33 : Int32 → Int32 → MU → Prop) (L46 : Int32 → Int32 → Int32 → MU → Prop) (Q : MU → Prop) (x1 : Int32) (x2 : Int32) (x3 : Int32) (u : MU) : Prop := ∀ x3_1, x3_1 = x3 + (1 : Int32) → L46 x1 x2 x3_1 u
set_option maxHeartbeats 4000000 in
set_option maxRecDepth 100000 in
theorem vb_X10_looks_240 {p : Program} {l : Launch} {e : Env} {s : State} {m : MethodId} {args : Array Value} {below : List Frame} {meth : Method} {c : Code} {g : GE} {U : MU} {W : (Nat → Int64) × (Nat → UInt64)} {Q : MU → Prop} (C : zCx p l s m args meth c g RX10 cX10_looks 9) (hr : meth.sig.returnType = (Option.none : Option Jvm.ClassFile.FieldType)) {L33 : Int32 → Int32 → MU → Prop} {L46 : Int32 → Int32 → Int32 → MU → Prop} (hL33 : ∀ (x1 : Int32) (x2 : Int32) (u : MU), L33 x1 x2 u → WM p l e rm_X10_looks s m args below meth c g 9 0 0 (MQ below (zQv g (zPmv U W Q)) args s 0 0 (zA g)) 33 [(0, .ref (g.2.2.1 117)), (1, .int x1), (2, .int x2)] [] (U, u, W)) (hL46 : ∀ (x1 : Int32) (x2 : Int32) (x3 : Int32) (u : MU), L46 x1 x2 x3 u → WM p l e rm_X10_looks s m args below meth c g 9 0 0 (MQ below (zQv g (zPmv U W Q)) args s 0 0 (zA g)) 46 [(0, .ref (g.2.2.1 117)), (1, .int x1), (2, .int x2), (3, .int x3)] [] (U, u, W)) (x1 : Int32) (x2 : Int32) (x3 : Int32) (u : MU) (h : wb_X10_looks_240 L33 L46  Q x1 x2 x3 u) : WM p l e rm_X10_looks s m args below meth c g 9 0 0 (MQ below (zQv g (zPmv U W Q)) args s 0 0 (zA g)) 240 [(0, .ref (g.2.2.1 117)), (1, .int x1), (2, .int x2), (3, .int x3)] [] (U, u, W) := by
  unfold wb_X10_looks_240 at h
  obtain ⟨x3_1, hx3_1⟩ : ∃ z, z = x3 + (1 : Int32) := ⟨_, rfl⟩
  have h := h x3_1 hx3_1
  refine zm_iinc (v := x3_1) (lv' := [(3, .int x3_1), (0, .ref (g.2.2.1 117)), (1, .int x1), (2, .int x2)]) C dX10_looks_240 3 rfl (by rw [hx3_1]; rfl) (by decide) rfl ?_
  refine zm_goto (tgt := 46) C dX10_looks_243 (by decide) ?_
  exact zm_sub [1, 2, 3, 0] rfl (hL46 _ _ _ _ h)
def wb_X10_looks_230 (L33 : Int32 → Int32 → MU → Prop) (L46 : Int32 → Int32 → Int32 → MU → Prop) (Q : MU → Prop) (x2 : Int32) (x3 : Int32) (s0 : Int32) (s1 : Int32) (u : MU) : Prop := vp_in s1 1296 ∧ (∀ u_2, u_2 = u2 u 126 (s1).toNatClampNeg s0 → vp_in x3 1296 ∧ (∀ u_4, u_4 = u2 u_2 127 (x3).toNatClampNeg x2 → wb_X10_looks_240 L33 L46  Q (1 : Int32) x2 x3 u_4))
set_option maxHeartbeats 4000000 in
set_option maxRecDepth 100000 in
theorem vb_X10_looks_230 {p : Program} {l : Launch} {e : Env} {s : State} {m : MethodId} {args : Array Value} {below : List Frame} {meth : Method} {c : Code} {g : GE} {U : MU} {W : (Nat → Int64) × (Nat → UInt64)} {Q : MU → Prop} (C : zCx p l s m args meth c g RX10 cX10_looks 9) (hr : meth.sig.returnType = (Option.none : Option Jvm.ClassFile.FieldType)) {L33 : Int32 → Int32 → MU → Prop} {L46 : Int32 → Int32 → Int32 → MU → Prop} (hL33 : ∀ (x1 : Int32) (x2 : Int32) (u : MU), L33 x1 x2 u → WM p l e rm_X10_looks s m args below meth c g 9 0 0 (MQ below (zQv g (zPmv U W Q)) args s 0 0 (zA g)) 33 [(0, .ref (g.2.2.1 117)), (1, .int x1), (2, .int x2)] [] (U, u, W)) (hL46 : ∀ (x1 : Int32) (x2 : Int32) (x3 : Int32) (u : MU), L46 x1 x2 x3 u → WM p l e rm_X10_looks s m args below meth c g 9 0 0 (MQ below (zQv g (zPmv U W Q)) args s 0 0 (zA g)) 46 [(0, .ref (g.2.2.1 117)), (1, .int x1), (2, .int x2), (3, .int x3)] [] (U, u, W)) (x2 : Int32) (x3 : Int32) (s0 : Int32) (s1 : Int32) (u : MU) (h : wb_X10_looks_230 L33 L46  Q x2 x3 s0 s1 u) : WM p l e rm_X10_looks s m args below meth c g 9 0 0 (MQ below (zQv g (zPmv U W Q)) args s 0 0 (zA g)) 230 [(0, .ref (g.2.2.1 117)), (2, .int x2), (3, .int x3)] [.int s0, .int s1, .ref (g.2.2.1 126)] (U, u, W) := by
  unfold wb_X10_looks_230 at h
  obtain ⟨hg_1, h⟩ := h
  refine zq_st_m C kd_126 ln_126 hg_1 dX10_looks_230 (fun u_2 hu_2 => ?_)
  have h := h u_2 hu_2
  refine zm_aload_n C dX10_looks_231 rfl 0 rfl ?_
  refine gf_RX10_42 (k1 := 127) C kd_117 rfl dX10_looks_232 ?_
  refine zm_iload_n C dX10_looks_235 rfl 2 rfl ?_
  refine zm_iload_n C dX10_looks_236 rfl 1 rfl ?_
  obtain ⟨hg_3, h⟩ := h
  refine zq_st_m C kd_127 ln_127 hg_3 dX10_looks_237 (fun u_4 hu_4 => ?_)
  have h := h u_4 hu_4
  refine zm_iconst (v := 1) C dX10_looks_238 (by decide) ?_
  refine zm_istore_n (lv' := [(1, .int (1 : Int32)), (0, .ref (g.2.2.1 117)), (2, .int x2), (3, .int x3)]) C dX10_looks_239 rfl (by decide) rfl ?_
  exact zm_sub [1, 0, 2, 3] rfl (vb_X10_looks_240 C hr hL33 hL46 _ _ _ _ h)
def wb_X10_looks_215 (L33 : Int32 → Int32 → MU → Prop) (L46 : Int32 → Int32 → Int32 → MU → Prop) (Q : MU → Prop) (x2 : Int32) (x3 : Int32) (x4 : Int32) (u : MU) : Prop := ((x4 = 0) → wb_X10_looks_230 L33 L46  Q x2 x3 (2 : Int32) x3 u) ∧ ((¬ x4 = 0) → wb_X10_looks_230 L33 L46  Q x2 x3 (1 : Int32) x3 u)
set_option maxHeartbeats 4000000 in
set_option maxRecDepth 100000 in
theorem vb_X10_looks_215 {p : Program} {l : Launch} {e : Env} {s : State} {m : MethodId} {args : Array Value} {below : List Frame} {meth : Method} {c : Code} {g : GE} {U : MU} {W : (Nat → Int64) × (Nat → UInt64)} {Q : MU → Prop} (C : zCx p l s m args meth c g RX10 cX10_looks 9) (hr : meth.sig.returnType = (Option.none : Option Jvm.ClassFile.FieldType)) {L33 : Int32 → Int32 → MU → Prop} {L46 : Int32 → Int32 → Int32 → MU → Prop} (hL33 : ∀ (x1 : Int32) (x2 : Int32) (u : MU), L33 x1 x2 u → WM p l e rm_X10_looks s m args below meth c g 9 0 0 (MQ below (zQv g (zPmv U W Q)) args s 0 0 (zA g)) 33 [(0, .ref (g.2.2.1 117)), (1, .int x1), (2, .int x2)] [] (U, u, W)) (hL46 : ∀ (x1 : Int32) (x2 : Int32) (x3 : Int32) (u : MU), L46 x1 x2 x3 u → WM p l e rm_X10_looks s m args below meth c g 9 0 0 (MQ below (zQv g (zPmv U W Q)) args s 0 0 (zA g)) 46 [(0, .ref (g.2.2.1 117)), (1, .int x1), (2, .int x2), (3, .int x3)] [] (U, u, W)) (x2 : Int32) (x3 : Int32) (x4 : Int32) (u : MU) (h : wb_X10_looks_215 L33 L46  Q x2 x3 x4 u) : WM p l e rm_X10_looks s m args below meth c g 9 0 0 (MQ below (zQv g (zPmv U W Q)) args s 0 0 (zA g)) 215 [(0, .ref (g.2.2.1 117)), (2, .int x2), (3, .int x3), (4, .int x4)] [] (U, u, W) := by
  unfold wb_X10_looks_215 at h
  refine zm_aload_n C dX10_looks_215 rfl 0 rfl ?_
  refine gf_RX10_39 (k1 := 126) C kd_117 rfl dX10_looks_216 ?_
  refine zm_iload_n C dX10_looks_219 rfl 2 rfl ?_
  refine zm_iload C dX10_looks_220 3 rfl ?_
  refine zm_if_eq (tgt := 229) C dX10_looks_222 (by decide) (fun hc_1 => ?_) (fun hc_1 => ?_)
  · have h := h.1 hc_1
    refine zm_iconst (v := 2) C dX10_looks_229 (by decide) ?_
    exact zm_sub [0, 1, 2] rfl (vb_X10_looks_230 C hr hL33 hL46 _ _ _ _ _ h)
  · have h := h.2 hc_1
    refine zm_iconst (v := 1) C dX10_looks_225 (by decide) ?_
    refine zm_goto (tgt := 230) C dX10_looks_226 (by decide) ?_
    exact zm_sub [0, 1, 2] rfl (vb_X10_looks_230 C hr hL33 hL46 _ _ _ _ _ h)
def wb_X10_looks_193 (L33 : Int32 → Int32 → MU → Prop) (L46 : Int32 → Int32 → Int32 → MU → Prop) (L87 : Int32 → Int32 → Int32 → Int32 → Int32 → Int32 → MU → Prop) (Q : MU → Prop) (x1 : Int32) (x2 : Int32) (x3 : Int32) (x4 : Int32) (x6 : Int32) (s0 : Int32) (s1 : Int32) (u : MU) : Prop := ∀ x5_1, x5_1 = (s1 &&& s0) → ∀ x6_2, x6_2 = x6 + (1 : Int32) → L87 x1 x2 x3 x4 x5_1 x6_2 u
set_option maxHeartbeats 4000000 in
set_option maxRecDepth 100000 in
theorem vb_X10_looks_193 {p : Program} {l : Launch} {e : Env} {s : State} {m : MethodId} {args : Array Value} {below : List Frame} {meth : Method} {c : Code} {g : GE} {U : MU} {W : (Nat → Int64) × (Nat → UInt64)} {Q : MU → Prop} (C : zCx p l s m args meth c g RX10 cX10_looks 9) (hr : meth.sig.returnType = (Option.none : Option Jvm.ClassFile.FieldType)) {L33 : Int32 → Int32 → MU → Prop} {L46 : Int32 → Int32 → Int32 → MU → Prop} {L87 : Int32 → Int32 → Int32 → Int32 → Int32 → Int32 → MU → Prop} (hL33 : ∀ (x1 : Int32) (x2 : Int32) (u : MU), L33 x1 x2 u → WM p l e rm_X10_looks s m args below meth c g 9 0 0 (MQ below (zQv g (zPmv U W Q)) args s 0 0 (zA g)) 33 [(0, .ref (g.2.2.1 117)), (1, .int x1), (2, .int x2)] [] (U, u, W)) (hL46 : ∀ (x1 : Int32) (x2 : Int32) (x3 : Int32) (u : MU), L46 x1 x2 x3 u → WM p l e rm_X10_looks s m args below meth c g 9 0 0 (MQ below (zQv g (zPmv U W Q)) args s 0 0 (zA g)) 46 [(0, .ref (g.2.2.1 117)), (1, .int x1), (2, .int x2), (3, .int x3)] [] (U, u, W)) (hL87 : ∀ (x1 : Int32) (x2 : Int32) (x3 : Int32) (x4 : Int32) (x5 : Int32) (x6 : Int32) (u : MU), L87 x1 x2 x3 x4 x5 x6 u → WM p l e rm_X10_looks s m args below meth c g 9 0 0 (MQ below (zQv g (zPmv U W Q)) args s 0 0 (zA g)) 87 [(0, .ref (g.2.2.1 117)), (1, .int x1), (2, .int x2), (3, .int x3), (4, .int x4), (5, .int x5), (6, .int x6)] [] (U, u, W)) (x1 : Int32) (x2 : Int32) (x3 : Int32) (x4 : Int32) (x6 : Int32) (s0 : Int32) (s1 : Int32) (u : MU) (h : wb_X10_looks_193 L33 L46 L87  Q x1 x2 x3 x4 x6 s0 s1 u) : WM p l e rm_X10_looks s m args below meth c g 9 0 0 (MQ below (zQv g (zPmv U W Q)) args s 0 0 (zA g)) 193 [(0, .ref (g.2.2.1 117)), (1, .int x1), (2, .int x2), (3, .int x3), (4, .int x4), (6, .int x6)] [.int s0, .int s1] (U, u, W) := by
  unfold wb_X10_looks_193 at h
  refine zm_iand C dX10_looks_193 ?_
  refine zm_nmI (fun x5_1 hx5_1 => ?_)
  have h := h x5_1 hx5_1
  refine zm_istore (lv' := [(5, .int x5_1), (0, .ref (g.2.2.1 117)), (1, .int x1), (2, .int x2), (3, .int x3), (4, .int x4), (6, .int x6)]) C dX10_looks_194 (by decide) rfl ?_
  obtain ⟨x6_2, hx6_2⟩ : ∃ z, z = x6 + (1 : Int32) := ⟨_, rfl⟩
  have h := h x6_2 hx6_2
  refine zm_iinc (v := x6_2) (lv' := [(6, .int x6_2), (5, .int x5_1), (0, .ref (g.2.2.1 117)), (1, .int x1), (2, .int x2), (3, .int x3), (4, .int x4)]) C dX10_looks_196 6 rfl (by rw [hx6_2]; rfl) (by decide) rfl ?_
  refine zm_goto (tgt := 87) C dX10_looks_199 (by decide) ?_
  exact zm_sub [2, 3, 4, 5, 6, 1, 0] rfl (hL87 _ _ _ _ _ _ _ h)
def wb_X10_looks_192 (L33 : Int32 → Int32 → MU → Prop) (L46 : Int32 → Int32 → Int32 → MU → Prop) (L87 : Int32 → Int32 → Int32 → Int32 → Int32 → Int32 → MU → Prop) (Q : MU → Prop) (x1 : Int32) (x2 : Int32) (x3 : Int32) (x4 : Int32) (x6 : Int32) (s0 : Int32) (u : MU) : Prop := wb_X10_looks_193 L33 L46 L87  Q x1 x2 x3 x4 x6 (0 : Int32) s0 u
set_option maxHeartbeats 4000000 in
set_option maxRecDepth 100000 in
theorem vb_X10_looks_192 {p : Program} {l : Launch} {e : Env} {s : State} {m : MethodId} {args : Array Value} {below : List Frame} {meth : Method} {c : Code} {g : GE} {U : MU} {W : (Nat → Int64) × (Nat → UInt64)} {Q : MU → Prop} (C : zCx p l s m args meth c g RX10 cX10_looks 9) (hr : meth.sig.returnType = (Option.none : Option Jvm.ClassFile.FieldType)) {L33 : Int32 → Int32 → MU → Prop} {L46 : Int32 → Int32 → Int32 → MU → Prop} {L87 : Int32 → Int32 → Int32 → Int32 → Int32 → Int32 → MU → Prop} (hL33 : ∀ (x1 : Int32) (x2 : Int32) (u : MU), L33 x1 x2 u → WM p l e rm_X10_looks s m args below meth c g 9 0 0 (MQ below (zQv g (zPmv U W Q)) args s 0 0 (zA g)) 33 [(0, .ref (g.2.2.1 117)), (1, .int x1), (2, .int x2)] [] (U, u, W)) (hL46 : ∀ (x1 : Int32) (x2 : Int32) (x3 : Int32) (u : MU), L46 x1 x2 x3 u → WM p l e rm_X10_looks s m args below meth c g 9 0 0 (MQ below (zQv g (zPmv U W Q)) args s 0 0 (zA g)) 46 [(0, .ref (g.2.2.1 117)), (1, .int x1), (2, .int x2), (3, .int x3)] [] (U, u, W)) (hL87 : ∀ (x1 : Int32) (x2 : Int32) (x3 : Int32) (x4 : Int32) (x5 : Int32) (x6 : Int32) (u : MU), L87 x1 x2 x3 x4 x5 x6 u → WM p l e rm_X10_looks s m args below meth c g 9 0 0 (MQ below (zQv g (zPmv U W Q)) args s 0 0 (zA g)) 87 [(0, .ref (g.2.2.1 117)), (1, .int x1), (2, .int x2), (3, .int x3), (4, .int x4), (5, .int x5), (6, .int x6)] [] (U, u, W)) (x1 : Int32) (x2 : Int32) (x3 : Int32) (x4 : Int32) (x6 : Int32) (s0 : Int32) (u : MU) (h : wb_X10_looks_192 L33 L46 L87  Q x1 x2 x3 x4 x6 s0 u) : WM p l e rm_X10_looks s m args below meth c g 9 0 0 (MQ below (zQv g (zPmv U W Q)) args s 0 0 (zA g)) 192 [(0, .ref (g.2.2.1 117)), (1, .int x1), (2, .int x2), (3, .int x3), (4, .int x4), (6, .int x6)] [.int s0] (U, u, W) := by
  unfold wb_X10_looks_192 at h
  refine zm_iconst (v := 0) C dX10_looks_192 (by decide) ?_
  exact zm_sub [0, 1, 2, 3, 4, 5] rfl (vb_X10_looks_193 C hr hL33 hL46 hL87 _ _ _ _ _ _ _ _ h)
def wb_X10_looks_167 (L33 : Int32 → Int32 → MU → Prop) (L46 : Int32 → Int32 → Int32 → MU → Prop) (L87 : Int32 → Int32 → Int32 → Int32 → Int32 → Int32 → MU → Prop) (Q : MU → Prop) (x1 : Int32) (x2 : Int32) (x3 : Int32) (x5 : Int32) (x6 : Int32) (x7 : Int32) (x8 : Int32) (s0 : Int32) (s1 : Int32) (u : MU) : Prop := ∀ x4_1, x4_1 = (s1 ||| s0) → ((x8 = 0) → wb_X10_looks_192 L33 L46 L87  Q x1 x2 x3 x4_1 x6 x5 u) ∧ ((¬ x8 = 0) → vp_in x7 1296 ∧ (((¬ (u 126 (x7).toNatClampNeg) = (1 : Int32)) → wb_X10_looks_192 L33 L46 L87  Q x1 x2 x3 x4_1 x6 x5 u) ∧ (((u 126 (x7).toNatClampNeg) = (1 : Int32)) → wb_X10_looks_193 L33 L46 L87  Q x1 x2 x3 x4_1 x6 (1 : Int32) x5 u)))
set_option maxHeartbeats 4000000 in
set_option maxRecDepth 100000 in
theorem vb_X10_looks_167 {p : Program} {l : Launch} {e : Env} {s : State} {m : MethodId} {args : Array Value} {below : List Frame} {meth : Method} {c : Code} {g : GE} {U : MU} {W : (Nat → Int64) × (Nat → UInt64)} {Q : MU → Prop} (C : zCx p l s m args meth c g RX10 cX10_looks 9) (hr : meth.sig.returnType = (Option.none : Option Jvm.ClassFile.FieldType)) {L33 : Int32 → Int32 → MU → Prop} {L46 : Int32 → Int32 → Int32 → MU → Prop} {L87 : Int32 → Int32 → Int32 → Int32 → Int32 → Int32 → MU → Prop} (hL33 : ∀ (x1 : Int32) (x2 : Int32) (u : MU), L33 x1 x2 u → WM p l e rm_X10_looks s m args below meth c g 9 0 0 (MQ below (zQv g (zPmv U W Q)) args s 0 0 (zA g)) 33 [(0, .ref (g.2.2.1 117)), (1, .int x1), (2, .int x2)] [] (U, u, W)) (hL46 : ∀ (x1 : Int32) (x2 : Int32) (x3 : Int32) (u : MU), L46 x1 x2 x3 u → WM p l e rm_X10_looks s m args below meth c g 9 0 0 (MQ below (zQv g (zPmv U W Q)) args s 0 0 (zA g)) 46 [(0, .ref (g.2.2.1 117)), (1, .int x1), (2, .int x2), (3, .int x3)] [] (U, u, W)) (hL87 : ∀ (x1 : Int32) (x2 : Int32) (x3 : Int32) (x4 : Int32) (x5 : Int32) (x6 : Int32) (u : MU), L87 x1 x2 x3 x4 x5 x6 u → WM p l e rm_X10_looks s m args below meth c g 9 0 0 (MQ below (zQv g (zPmv U W Q)) args s 0 0 (zA g)) 87 [(0, .ref (g.2.2.1 117)), (1, .int x1), (2, .int x2), (3, .int x3), (4, .int x4), (5, .int x5), (6, .int x6)] [] (U, u, W)) (x1 : Int32) (x2 : Int32) (x3 : Int32) (x5 : Int32) (x6 : Int32) (x7 : Int32) (x8 : Int32) (s0 : Int32) (s1 : Int32) (u : MU) (h : wb_X10_looks_167 L33 L46 L87  Q x1 x2 x3 x5 x6 x7 x8 s0 s1 u) : WM p l e rm_X10_looks s m args below meth c g 9 0 0 (MQ below (zQv g (zPmv U W Q)) args s 0 0 (zA g)) 167 [(0, .ref (g.2.2.1 117)), (1, .int x1), (2, .int x2), (3, .int x3), (5, .int x5), (6, .int x6), (7, .int x7), (8, .int x8)] [.int s0, .int s1] (U, u, W) := by
  unfold wb_X10_looks_167 at h
  refine zm_ior C dX10_looks_167 ?_
  refine zm_nmI (fun x4_1 hx4_1 => ?_)
  have h := h x4_1 hx4_1
  refine zm_istore (lv' := [(4, .int x4_1), (0, .ref (g.2.2.1 117)), (1, .int x1), (2, .int x2), (3, .int x3), (5, .int x5), (6, .int x6), (7, .int x7), (8, .int x8)]) C dX10_looks_168 (by decide) rfl ?_
  refine zm_iload C dX10_looks_170 5 rfl ?_
  refine zm_iload C dX10_looks_172 8 rfl ?_
  refine zm_if_eq (tgt := 192) C dX10_looks_174 (by decide) (fun hc_2 => ?_) (fun hc_2 => ?_)
  · have h := h.1 hc_2
    exact zm_sub [1, 2, 3, 4, 0, 6] rfl (vb_X10_looks_192 C hr hL33 hL46 hL87 _ _ _ _ _ _ _ h)
  · have h := h.2 hc_2
    refine zm_aload_n C dX10_looks_177 rfl 1 rfl ?_
    refine gf_RX10_39 (k1 := 126) C kd_117 rfl dX10_looks_178 ?_
    refine zm_iload C dX10_looks_181 7 rfl ?_
    obtain ⟨hg_3, h⟩ := h
    refine zq_ld_m C kd_126 ln_126 hg_3 dX10_looks_183 ?_
    refine zm_iconst (v := 1) C dX10_looks_184 (by decide) ?_
    refine zm_icmp_ne (tgt := 192) C dX10_looks_185 (by decide) (fun hc_4 => ?_) (fun hc_4 => ?_)
    · have h := h.1 hc_4
      exact zm_sub [1, 2, 3, 4, 0, 6] rfl (vb_X10_looks_192 C hr hL33 hL46 hL87 _ _ _ _ _ _ _ h)
    · have h := h.2 hc_4
      refine zm_iconst (v := 1) C dX10_looks_188 (by decide) ?_
      refine zm_goto (tgt := 193) C dX10_looks_189 (by decide) ?_
      exact zm_sub [1, 2, 3, 4, 0, 6] rfl (vb_X10_looks_193 C hr hL33 hL46 hL87 _ _ _ _ _ _ _ _ h)
def wb_X10_looks_166 (L33 : Int32 → Int32 → MU → Prop) (L46 : Int32 → Int32 → Int32 → MU → Prop) (L87 : Int32 → Int32 → Int32 → Int32 → Int32 → Int32 → MU → Prop) (Q : MU → Prop) (x1 : Int32) (x2 : Int32) (x3 : Int32) (x5 : Int32) (x6 : Int32) (x7 : Int32) (x8 : Int32) (s0 : Int32) (u : MU) : Prop := wb_X10_looks_167 L33 L46 L87  Q x1 x2 x3 x5 x6 x7 x8 (0 : Int32) s0 u
set_option maxHeartbeats 4000000 in
set_option maxRecDepth 100000 in
theorem vb_X10_looks_166 {p : Program} {l : Launch} {e : Env} {s : State} {m : MethodId} {args : Array Value} {below : List Frame} {meth : Method} {c : Code} {g : GE} {U : MU} {W : (Nat → Int64) × (Nat → UInt64)} {Q : MU → Prop} (C : zCx p l s m args meth c g RX10 cX10_looks 9) (hr : meth.sig.returnType = (Option.none : Option Jvm.ClassFile.FieldType)) {L33 : Int32 → Int32 → MU → Prop} {L46 : Int32 → Int32 → Int32 → MU → Prop} {L87 : Int32 → Int32 → Int32 → Int32 → Int32 → Int32 → MU → Prop} (hL33 : ∀ (x1 : Int32) (x2 : Int32) (u : MU), L33 x1 x2 u → WM p l e rm_X10_looks s m args below meth c g 9 0 0 (MQ below (zQv g (zPmv U W Q)) args s 0 0 (zA g)) 33 [(0, .ref (g.2.2.1 117)), (1, .int x1), (2, .int x2)] [] (U, u, W)) (hL46 : ∀ (x1 : Int32) (x2 : Int32) (x3 : Int32) (u : MU), L46 x1 x2 x3 u → WM p l e rm_X10_looks s m args below meth c g 9 0 0 (MQ below (zQv g (zPmv U W Q)) args s 0 0 (zA g)) 46 [(0, .ref (g.2.2.1 117)), (1, .int x1), (2, .int x2), (3, .int x3)] [] (U, u, W)) (hL87 : ∀ (x1 : Int32) (x2 : Int32) (x3 : Int32) (x4 : Int32) (x5 : Int32) (x6 : Int32) (u : MU), L87 x1 x2 x3 x4 x5 x6 u → WM p l e rm_X10_looks s m args below meth c g 9 0 0 (MQ below (zQv g (zPmv U W Q)) args s 0 0 (zA g)) 87 [(0, .ref (g.2.2.1 117)), (1, .int x1), (2, .int x2), (3, .int x3), (4, .int x4), (5, .int x5), (6, .int x6)] [] (U, u, W)) (x1 : Int32) (x2 : Int32) (x3 : Int32) (x5 : Int32) (x6 : Int32) (x7 : Int32) (x8 : Int32) (s0 : Int32) (u : MU) (h : wb_X10_looks_166 L33 L46 L87  Q x1 x2 x3 x5 x6 x7 x8 s0 u) : WM p l e rm_X10_looks s m args below meth c g 9 0 0 (MQ below (zQv g (zPmv U W Q)) args s 0 0 (zA g)) 166 [(0, .ref (g.2.2.1 117)), (1, .int x1), (2, .int x2), (3, .int x3), (5, .int x5), (6, .int x6), (7, .int x7), (8, .int x8)] [.int s0] (U, u, W) := by
  unfold wb_X10_looks_166 at h
  refine zm_iconst (v := 0) C dX10_looks_166 (by decide) ?_
  exact zm_sub [0, 1, 2, 3, 4, 5, 6, 7] rfl (vb_X10_looks_167 C hr hL33 hL46 hL87 _ _ _ _ _ _ _ _ _ _ h)
def wb_X10_looks_142 (L33 : Int32 → Int32 → MU → Prop) (L46 : Int32 → Int32 → Int32 → MU → Prop) (L87 : Int32 → Int32 → Int32 → Int32 → Int32 → Int32 → MU → Prop) (Q : MU → Prop) (x1 : Int32) (x2 : Int32) (x3 : Int32) (x4 : Int32) (x5 : Int32) (x6 : Int32) (x7 : Int32) (s0 : Int32) (u : MU) : Prop := ((s0 = 0) → wb_X10_looks_166 L33 L46 L87  Q x1 x2 x3 x5 x6 x7 s0 x4 u) ∧ ((¬ s0 = 0) → vp_in x7 1296 ∧ (((¬ (u 126 (x7).toNatClampNeg) = (2 : Int32)) → wb_X10_looks_166 L33 L46 L87  Q x1 x2 x3 x5 x6 x7 s0 x4 u) ∧ (((u 126 (x7).toNatClampNeg) = (2 : Int32)) → wb_X10_looks_167 L33 L46 L87  Q x1 x2 x3 x5 x6 x7 s0 (1 : Int32) x4 u)))
set_option maxHeartbeats 4000000 in
set_option maxRecDepth 100000 in
theorem vb_X10_looks_142 {p : Program} {l : Launch} {e : Env} {s : State} {m : MethodId} {args : Array Value} {below : List Frame} {meth : Method} {c : Code} {g : GE} {U : MU} {W : (Nat → Int64) × (Nat → UInt64)} {Q : MU → Prop} (C : zCx p l s m args meth c g RX10 cX10_looks 9) (hr : meth.sig.returnType = (Option.none : Option Jvm.ClassFile.FieldType)) {L33 : Int32 → Int32 → MU → Prop} {L46 : Int32 → Int32 → Int32 → MU → Prop} {L87 : Int32 → Int32 → Int32 → Int32 → Int32 → Int32 → MU → Prop} (hL33 : ∀ (x1 : Int32) (x2 : Int32) (u : MU), L33 x1 x2 u → WM p l e rm_X10_looks s m args below meth c g 9 0 0 (MQ below (zQv g (zPmv U W Q)) args s 0 0 (zA g)) 33 [(0, .ref (g.2.2.1 117)), (1, .int x1), (2, .int x2)] [] (U, u, W)) (hL46 : ∀ (x1 : Int32) (x2 : Int32) (x3 : Int32) (u : MU), L46 x1 x2 x3 u → WM p l e rm_X10_looks s m args below meth c g 9 0 0 (MQ below (zQv g (zPmv U W Q)) args s 0 0 (zA g)) 46 [(0, .ref (g.2.2.1 117)), (1, .int x1), (2, .int x2), (3, .int x3)] [] (U, u, W)) (hL87 : ∀ (x1 : Int32) (x2 : Int32) (x3 : Int32) (x4 : Int32) (x5 : Int32) (x6 : Int32) (u : MU), L87 x1 x2 x3 x4 x5 x6 u → WM p l e rm_X10_looks s m args below meth c g 9 0 0 (MQ below (zQv g (zPmv U W Q)) args s 0 0 (zA g)) 87 [(0, .ref (g.2.2.1 117)), (1, .int x1), (2, .int x2), (3, .int x3), (4, .int x4), (5, .int x5), (6, .int x6)] [] (U, u, W)) (x1 : Int32) (x2 : Int32) (x3 : Int32) (x4 : Int32) (x5 : Int32) (x6 : Int32) (x7 : Int32) (s0 : Int32) (u : MU) (h : wb_X10_looks_142 L33 L46 L87  Q x1 x2 x3 x4 x5 x6 x7 s0 u) : WM p l e rm_X10_looks s m args below meth c g 9 0 0 (MQ below (zQv g (zPmv U W Q)) args s 0 0 (zA g)) 142 [(0, .ref (g.2.2.1 117)), (1, .int x1), (2, .int x2), (3, .int x3), (4, .int x4), (5, .int x5), (6, .int x6), (7, .int x7)] [.int s0] (U, u, W) := by
  unfold wb_X10_looks_142 at h
  refine zm_istore (lv' := [(8, .int s0), (0, .ref (g.2.2.1 117)), (1, .int x1), (2, .int x2), (3, .int x3), (4, .int x4), (5, .int x5), (6, .int x6), (7, .int x7)]) C dX10_looks_142 (by decide) rfl ?_
  refine zm_iload C dX10_looks_144 5 rfl ?_
  refine zm_iload C dX10_looks_146 0 rfl ?_
  refine zm_if_eq (tgt := 166) C dX10_looks_148 (by decide) (fun hc_1 => ?_) (fun hc_1 => ?_)
  · have h := h.1 hc_1
    exact zm_sub [1, 2, 3, 4, 6, 7, 8, 0] rfl (vb_X10_looks_166 C hr hL33 hL46 hL87 _ _ _ _ _ _ _ _ _ h)
  · have h := h.2 hc_1
    refine zm_aload_n C dX10_looks_151 rfl 1 rfl ?_
    refine gf_RX10_39 (k1 := 126) C kd_117 rfl dX10_looks_152 ?_
    refine zm_iload C dX10_looks_155 8 rfl ?_
    obtain ⟨hg_2, h⟩ := h
    refine zq_ld_m C kd_126 ln_126 hg_2 dX10_looks_157 ?_
    refine zm_iconst (v := 2) C dX10_looks_158 (by decide) ?_
    refine zm_icmp_ne (tgt := 166) C dX10_looks_159 (by decide) (fun hc_3 => ?_) (fun hc_3 => ?_)
    · have h := h.1 hc_3
      exact zm_sub [1, 2, 3, 4, 6, 7, 8, 0] rfl (vb_X10_looks_166 C hr hL33 hL46 hL87 _ _ _ _ _ _ _ _ _ h)
    · have h := h.2 hc_3
      refine zm_iconst (v := 1) C dX10_looks_162 (by decide) ?_
      refine zm_goto (tgt := 167) C dX10_looks_163 (by decide) ?_
      exact zm_sub [1, 2, 3, 4, 6, 7, 8, 0] rfl (vb_X10_looks_167 C hr hL33 hL46 hL87 _ _ _ _ _ _ _ _ _ _ h)
def wb_X10_looks_141 (L33 : Int32 → Int32 → MU → Prop) (L46 : Int32 → Int32 → Int32 → MU → Prop) (L87 : Int32 → Int32 → Int32 → Int32 → Int32 → Int32 → MU → Prop) (Q : MU → Prop) (x1 : Int32) (x2 : Int32) (x3 : Int32) (x4 : Int32) (x5 : Int32) (x6 : Int32) (x7 : Int32) (u : MU) : Prop := wb_X10_looks_142 L33 L46 L87  Q x1 x2 x3 x4 x5 x6 x7 (0 : Int32) u
set_option maxHeartbeats 4000000 in
set_option maxRecDepth 100000 in
theorem vb_X10_looks_141 {p : Program} {l : Launch} {e : Env} {s : State} {m : MethodId} {args : Array Value} {below : List Frame} {meth : Method} {c : Code} {g : GE} {U : MU} {W : (Nat → Int64) × (Nat → UInt64)} {Q : MU → Prop} (C : zCx p l s m args meth c g RX10 cX10_looks 9) (hr : meth.sig.returnType = (Option.none : Option Jvm.ClassFile.FieldType)) {L33 : Int32 → Int32 → MU → Prop} {L46 : Int32 → Int32 → Int32 → MU → Prop} {L87 : Int32 → Int32 → Int32 → Int32 → Int32 → Int32 → MU → Prop} (hL33 : ∀ (x1 : Int32) (x2 : Int32) (u : MU), L33 x1 x2 u → WM p l e rm_X10_looks s m args below meth c g 9 0 0 (MQ below (zQv g (zPmv U W Q)) args s 0 0 (zA g)) 33 [(0, .ref (g.2.2.1 117)), (1, .int x1), (2, .int x2)] [] (U, u, W)) (hL46 : ∀ (x1 : Int32) (x2 : Int32) (x3 : Int32) (u : MU), L46 x1 x2 x3 u → WM p l e rm_X10_looks s m args below meth c g 9 0 0 (MQ below (zQv g (zPmv U W Q)) args s 0 0 (zA g)) 46 [(0, .ref (g.2.2.1 117)), (1, .int x1), (2, .int x2), (3, .int x3)] [] (U, u, W)) (hL87 : ∀ (x1 : Int32) (x2 : Int32) (x3 : Int32) (x4 : Int32) (x5 : Int32) (x6 : Int32) (u : MU), L87 x1 x2 x3 x4 x5 x6 u → WM p l e rm_X10_looks s m args below meth c g 9 0 0 (MQ below (zQv g (zPmv U W Q)) args s 0 0 (zA g)) 87 [(0, .ref (g.2.2.1 117)), (1, .int x1), (2, .int x2), (3, .int x3), (4, .int x4), (5, .int x5), (6, .int x6)] [] (U, u, W)) (x1 : Int32) (x2 : Int32) (x3 : Int32) (x4 : Int32) (x5 : Int32) (x6 : Int32) (x7 : Int32) (u : MU) (h : wb_X10_looks_141 L33 L46 L87  Q x1 x2 x3 x4 x5 x6 x7 u) : WM p l e rm_X10_looks s m args below meth c g 9 0 0 (MQ below (zQv g (zPmv U W Q)) args s 0 0 (zA g)) 141 [(0, .ref (g.2.2.1 117)), (1, .int x1), (2, .int x2), (3, .int x3), (4, .int x4), (5, .int x5), (6, .int x6), (7, .int x7)] [] (U, u, W) := by
  unfold wb_X10_looks_141 at h
  refine zm_iconst (v := 0) C dX10_looks_141 (by decide) ?_
  exact zm_sub [0, 1, 2, 3, 4, 5, 6, 7] rfl (vb_X10_looks_142 C hr hL33 hL46 hL87 _ _ _ _ _ _ _ _ _ h)
def wl_X10_looks_87 (L33 : Int32 → Int32 → MU → Prop) (L46 : Int32 → Int32 → Int32 → MU → Prop) (Q : MU → Prop) : Nat → Int32 → Int32 → Int32 → Int32 → Int32 → Int32 → MU → Prop
  | 0, _, _, _, _, _, _, _ => False
  | n + 1, x1, x2, x3, x4, x5, x6, u => (((u 117 25) ≤ x6) → ((¬ x4 = 0) → wb_X10_looks_215 L33 L46  Q x2 x3 x4 u) ∧ ((x4 = 0) → ((¬ x5 = 0) → wb_X10_looks_215 L33 L46  Q x2 x3 x4 u) ∧ ((x5 = 0) → wb_X10_looks_240 L33 L46  Q x1 x2 x3 u))) ∧ ((¬ (u 117 25) ≤ x6) → vp_in x6 24 ∧ (vp_in x6 24 ∧ (w_X10_behind x3 (u 129 (x6).toNatClampNeg) (u 130 (x6).toNatClampNeg) (fun r_6 => vp_in r_6 1296 ∧ ((((u 126 (r_6).toNatClampNeg) = 0) → wb_X10_looks_141 L33 L46 (fun x1' x2' x3' x4' x5' x6' u' => wl_X10_looks_87 L33 L46 Q n x1' x2' x3' x4' x5' x6' u')  Q x1 x2 x3 x4 x5 x6 r_6 u) ∧ ((¬ (u 126 (r_6).toNatClampNeg) = 0) → vp_in r_6 1296 ∧ (((x2 ≤ (u 127 (r_6).toNatClampNeg)) → wb_X10_looks_141 L33 L46 (fun x1' x2' x3' x4' x5' x6' u' => wl_X10_looks_87 L33 L46 Q n x1' x2' x3' x4' x5' x6' u')  Q x1 x2 x3 x4 x5 x6 r_6 u) ∧ ((¬ x2 ≤ (u 127 (r_6).toNatClampNeg)) → wb_X10_looks_142 L33 L46 (fun x1' x2' x3' x4' x5' x6' u' => wl_X10_looks_87 L33 L46 Q n x1' x2' x3' x4' x5' x6' u')  Q x1 x2 x3 x4 x5 x6 r_6 (1 : Int32) u))))))))
set_option maxHeartbeats 4000000 in
set_option maxRecDepth 100000 in
theorem vl_X10_looks_87 {p : Program} {l : Launch} {e : Env} {s : State} {m : MethodId} {args : Array Value} {below : List Frame} {meth : Method} {c : Code} {g : GE} {U : MU} {W : (Nat → Int64) × (Nat → UInt64)} {Q : MU → Prop} (C : zCx p l s m args meth c g RX10 cX10_looks 9) (hr : meth.sig.returnType = (Option.none : Option Jvm.ClassFile.FieldType)) {L33 : Int32 → Int32 → MU → Prop} {L46 : Int32 → Int32 → Int32 → MU → Prop} (hL33 : ∀ (x1 : Int32) (x2 : Int32) (u : MU), L33 x1 x2 u → WM p l e rm_X10_looks s m args below meth c g 9 0 0 (MQ below (zQv g (zPmv U W Q)) args s 0 0 (zA g)) 33 [(0, .ref (g.2.2.1 117)), (1, .int x1), (2, .int x2)] [] (U, u, W)) (hL46 : ∀ (x1 : Int32) (x2 : Int32) (x3 : Int32) (u : MU), L46 x1 x2 x3 u → WM p l e rm_X10_looks s m args below meth c g 9 0 0 (MQ below (zQv g (zPmv U W Q)) args s 0 0 (zA g)) 46 [(0, .ref (g.2.2.1 117)), (1, .int x1), (2, .int x2), (3, .int x3)] [] (U, u, W)) : ∀ (n : Nat) (x1 : Int32) (x2 : Int32) (x3 : Int32) (x4 : Int32) (x5 : Int32) (x6 : Int32) (u : MU) , wl_X10_looks_87 L33 L46  Q n x1 x2 x3 x4 x5 x6 u → WM p l e rm_X10_looks s m args below meth c g 9 0 0 (MQ below (zQv g (zPmv U W Q)) args s 0 0 (zA g)) 87 [(0, .ref (g.2.2.1 117)), (1, .int x1), (2, .int x2), (3, .int x3), (4, .int x4), (5, .int x5), (6, .int x6)] [] (U, u, W) := by
  intro n
  induction n with
  | zero => intro _ _ _ _ _ _ _ h; exact h.elim
  | succ n ih =>
    intro x1 x2 x3 x4 x5 x6 u h
    unfold wl_X10_looks_87 at h
    refine zm_iload C dX10_looks_87 6 rfl ?_
    refine zm_aload_n C dX10_looks_89 rfl 0 rfl ?_
    refine gf_RX10_103 C kd_117 dX10_looks_90 ?_
    refine zm_icmp_ge (tgt := 202) C dX10_looks_93 (by decide) (fun hc_1 => ?_) (fun hc_1 => ?_)
    · have h := h.1 hc_1
      refine zm_iload C dX10_looks_202 4 rfl ?_
      refine zm_if_ne (tgt := 215) C dX10_looks_204 (by decide) (fun hc_2 => ?_) (fun hc_2 => ?_)
      · have h := h.1 hc_2
        exact zm_sub [0, 2, 3, 4] rfl (vb_X10_looks_215 C hr hL33 hL46 _ _ _ _ h)
      · have h := h.2 hc_2
        refine zm_iload C dX10_looks_207 5 rfl ?_
        refine zm_if_ne (tgt := 215) C dX10_looks_209 (by decide) (fun hc_3 => ?_) (fun hc_3 => ?_)
        · have h := h.1 hc_3
          exact zm_sub [0, 2, 3, 4] rfl (vb_X10_looks_215 C hr hL33 hL46 _ _ _ _ h)
        · have h := h.2 hc_3
          refine zm_goto (tgt := 240) C dX10_looks_212 (by decide) ?_
          exact zm_sub [0, 1, 2, 3] rfl (vb_X10_looks_240 C hr hL33 hL46 _ _ _ _ h)
    · have h := h.2 hc_1
      refine zm_iload_n C dX10_looks_96 rfl 3 rfl ?_
      refine zm_aload_n C dX10_looks_97 rfl 0 rfl ?_
      refine gf_RX10_48 (k1 := 129) C kd_117 rfl dX10_looks_98 ?_
      refine zm_iload C dX10_looks_101 6 rfl ?_
      obtain ⟨hg_4, h⟩ := h
      refine zq_ld_m C kd_129 ln_129 hg_4 dX10_looks_103 ?_
      refine zm_aload_n C dX10_looks_104 rfl 0 rfl ?_
      refine gf_RX10_51 (k1 := 130) C kd_117 rfl dX10_looks_105 ?_
      refine zm_iload C dX10_looks_108 6 rfl ?_
      obtain ⟨hg_5, h⟩ := h
      refine zq_ld_m C kd_130 ln_130 hg_5 dX10_looks_110 ?_
      refine zm_ci (zr_S (As := [.int x3, .int (u 129 (x6).toNatClampNeg), .int (u 130 (x6).toNatClampNeg)]) (rest := []) C (c_X10_behind l g (U, u, W) x3 (u 129 (x6).toNatClampNeg) (u 130 (x6).toNatClampNeg) h) wd_1312 wd_1313 wd_11 wd_1314 hy_X10_behind rfl rfl ⟨by decide, by decide⟩ ⟨by decide, by decide⟩ rfl rfl (Nat.le_of_ble_eq_true rfl) dX10_looks_111) (fun r_6 M1 hq => ?_)
      obtain ⟨rfl, h⟩ := hq
      refine zm_istore (lv' := [(7, .int r_6), (0, .ref (g.2.2.1 117)), (1, .int x1), (2, .int x2), (3, .int x3), (4, .int x4), (5, .int x5), (6, .int x6)]) C dX10_looks_114 (by decide) rfl ?_
      refine zm_aload_n C dX10_looks_116 rfl 1 rfl ?_
      refine gf_RX10_39 (k1 := 126) C kd_117 rfl dX10_looks_117 ?_
      refine zm_iload C dX10_looks_120 0 rfl ?_
      obtain ⟨hg_8, h⟩ := h
      refine zq_ld_m C kd_126 ln_126 hg_8 dX10_looks_122 ?_
      refine zm_if_eq (tgt := 141) C dX10_looks_123 (by decide) (fun hc_9 => ?_) (fun hc_9 => ?_)
      · have h := h.1 hc_9
        exact zm_sub [1, 2, 3, 4, 5, 6, 7, 0] rfl (vb_X10_looks_141 C hr hL33 hL46 ih _ _ _ _ _ _ _ _ h)
      · have h := h.2 hc_9
        refine zm_aload_n C dX10_looks_126 rfl 1 rfl ?_
        refine gf_RX10_42 (k1 := 127) C kd_117 rfl dX10_looks_127 ?_
        refine zm_iload C dX10_looks_130 0 rfl ?_
        obtain ⟨hg_10, h⟩ := h
        refine zq_ld_m C kd_127 ln_127 hg_10 dX10_looks_132 ?_
        refine zm_iload_n C dX10_looks_133 rfl 3 rfl ?_
        refine zm_icmp_ge (tgt := 141) C dX10_looks_134 (by decide) (fun hc_11 => ?_) (fun hc_11 => ?_)
        · have h := h.1 hc_11
          exact zm_sub [1, 2, 3, 4, 5, 6, 7, 0] rfl (vb_X10_looks_141 C hr hL33 hL46 ih _ _ _ _ _ _ _ _ h)
        · have h := h.2 hc_11
          refine zm_iconst (v := 1) C dX10_looks_137 (by decide) ?_
          refine zm_goto (tgt := 142) C dX10_looks_138 (by decide) ?_
          exact zm_sub [1, 2, 3, 4, 5, 6, 7, 0] rfl (vb_X10_looks_142 C hr hL33 hL46 ih _ _ _ _ _ _ _ _ _ h)
def wl_X10_looks_46 (L33 : Int32 → Int32 → MU → Prop) (Q : MU → Prop) : Nat → Int32 → Int32 → Int32 → MU → Prop
  | 0, _, _, _, _ => False
  | n + 1, x1, x2, x3, u => (((1296 : Int32) ≤ x3) → ∀ x2_2, x2_2 = x2 + (1 : Int32) → L33 x1 x2_2 u) ∧ ((¬ (1296 : Int32) ≤ x3) → vp_in x3 1296 ∧ (((¬ (u 126 (x3).toNatClampNeg) = 0) → wb_X10_looks_240 L33 (fun x1' x2' x3' u' => wl_X10_looks_46 L33 Q n x1' x2' x3' u')  Q x1 x2 x3 u) ∧ (((u 126 (x3).toNatClampNeg) = 0) → w_X10_isPosition u x3 (fun r_5 => ((¬ r_5 = 0) → w_X10_finds x3 u (fun u_9 => ∃ nn, wl_X10_looks_87 L33 (fun x1' x2' x3' u' => wl_X10_looks_46 L33 Q n x1' x2' x3' u')  Q nn x1 x2 x3 (0 : Int32) (1 : Int32) (0 : Int32) u_9)) ∧ ((r_5 = 0) → wb_X10_looks_240 L33 (fun x1' x2' x3' u' => wl_X10_looks_46 L33 Q n x1' x2' x3' u')  Q x1 x2 x3 u)))))
set_option maxHeartbeats 4000000 in
set_option maxRecDepth 100000 in
theorem vl_X10_looks_46 {p : Program} {l : Launch} {e : Env} {s : State} {m : MethodId} {args : Array Value} {below : List Frame} {meth : Method} {c : Code} {g : GE} {U : MU} {W : (Nat → Int64) × (Nat → UInt64)} {Q : MU → Prop} (C : zCx p l s m args meth c g RX10 cX10_looks 9) (hr : meth.sig.returnType = (Option.none : Option Jvm.ClassFile.FieldType)) {L33 : Int32 → Int32 → MU → Prop} (hL33 : ∀ (x1 : Int32) (x2 : Int32) (u : MU), L33 x1 x2 u → WM p l e rm_X10_looks s m args below meth c g 9 0 0 (MQ below (zQv g (zPmv U W Q)) args s 0 0 (zA g)) 33 [(0, .ref (g.2.2.1 117)), (1, .int x1), (2, .int x2)] [] (U, u, W)) : ∀ (n : Nat) (x1 : Int32) (x2 : Int32) (x3 : Int32) (u : MU) , wl_X10_looks_46 L33  Q n x1 x2 x3 u → WM p l e rm_X10_looks s m args below meth c g 9 0 0 (MQ below (zQv g (zPmv U W Q)) args s 0 0 (zA g)) 46 [(0, .ref (g.2.2.1 117)), (1, .int x1), (2, .int x2), (3, .int x3)] [] (U, u, W) := by
  intro n
  induction n with
  | zero => intro _ _ _ _ h; exact h.elim
  | succ n ih =>
    intro x1 x2 x3 u h
    unfold wl_X10_looks_46 at h
    refine zm_iload_n C dX10_looks_46 rfl 3 rfl ?_
    refine zm_sipush (v := 1296) C dX10_looks_47 (by decide) ?_
    refine zm_icmp_ge (tgt := 246) C dX10_looks_50 (by decide) (fun hc_1 => ?_) (fun hc_1 => ?_)
    · have h := h.1 hc_1
      obtain ⟨x2_2, hx2_2⟩ : ∃ z, z = x2 + (1 : Int32) := ⟨_, rfl⟩
      have h := h x2_2 hx2_2
      refine zm_iinc (v := x2_2) (lv' := [(2, .int x2_2), (0, .ref (g.2.2.1 117)), (1, .int x1), (3, .int x3)]) C dX10_looks_246 2 rfl (by rw [hx2_2]; rfl) (by decide) rfl ?_
      refine zm_goto (tgt := 33) C dX10_looks_249 (by decide) ?_
      exact zm_sub [1, 2, 0] rfl (hL33 _ _ _ h)
    · have h := h.2 hc_1
      refine zm_aload_n C dX10_looks_53 rfl 0 rfl ?_
      refine gf_RX10_39 (k1 := 126) C kd_117 rfl dX10_looks_54 ?_
      refine zm_iload_n C dX10_looks_57 rfl 3 rfl ?_
      obtain ⟨hg_3, h⟩ := h
      refine zq_ld_m C kd_126 ln_126 hg_3 dX10_looks_58 ?_
      refine zm_if_ne (tgt := 240) C dX10_looks_59 (by decide) (fun hc_4 => ?_) (fun hc_4 => ?_)
      · have h := h.1 hc_4
        exact zm_sub [0, 1, 2, 3] rfl (vb_X10_looks_240 C hr hL33 ih _ _ _ _ h)
      · have h := h.2 hc_4
        refine zm_aload_n C dX10_looks_62 rfl 0 rfl ?_
        refine zm_iload_n C dX10_looks_63 rfl 3 rfl ?_
        refine zm_ci (zr_V (As := [.int x3]) (rest := []) C (c_X10_isPosition l g U u W x3 h) wd_1268 wd_1270 wp_44 wd_11 wd_1271 hy_X10_isPosition rfl rfl ⟨by decide, by decide⟩ ⟨by decide, by decide⟩ (ci := 10) (by decide) (zCell_k kd_117) rfl rfl rfl rfl (Nat.le_of_ble_eq_true rfl) dX10_looks_64) (fun r_5 M1 hq => ?_)
        obtain ⟨rfl, h⟩ := hq
        refine zm_if_ne (tgt := 73) C dX10_looks_67 (by decide) (fun hc_7 => ?_) (fun hc_7 => ?_)
        · have h := h.1 hc_7
          refine zm_aload_n C dX10_looks_73 rfl 0 rfl ?_
          refine zm_iload_n C dX10_looks_74 rfl 3 rfl ?_
          refine zm_cv (zr_V (As := [.int x3]) (rest := []) C (c_X10_finds l g U u W x3 h) wd_1289 wd_1291 wp_47 wd_11 wd_1292 hy_X10_finds rfl rfl ⟨by decide, by decide⟩ ⟨by decide, by decide⟩ (ci := 10) (by decide) (zCell_k kd_117) rfl rfl rfl rfl (Nat.le_of_ble_eq_true rfl) dX10_looks_75) (fun M1 hq => ?_)
          obtain ⟨u_9, rfl, h⟩ := hq
          refine zm_iconst (v := 0) C dX10_looks_78 (by decide) ?_
          refine zm_istore (lv' := [(4, .int (0 : Int32)), (0, .ref (g.2.2.1 117)), (1, .int x1), (2, .int x2), (3, .int x3)]) C dX10_looks_79 (by decide) rfl ?_
          refine zm_iconst (v := 1) C dX10_looks_81 (by decide) ?_
          refine zm_istore (lv' := [(5, .int (1 : Int32)), (4, .int (0 : Int32)), (0, .ref (g.2.2.1 117)), (1, .int x1), (2, .int x2), (3, .int x3)]) C dX10_looks_82 (by decide) rfl ?_
          refine zm_iconst (v := 0) C dX10_looks_84 (by decide) ?_
          refine zm_istore (lv' := [(6, .int (0 : Int32)), (5, .int (1 : Int32)), (4, .int (0 : Int32)), (0, .ref (g.2.2.1 117)), (1, .int x1), (2, .int x2), (3, .int x3)]) C dX10_looks_85 (by decide) rfl ?_
          obtain ⟨nn, h⟩ := h
          exact zm_sub [3, 4, 5, 6, 2, 1, 0] rfl (vl_X10_looks_87 C hr hL33 ih nn _ _ _ _ _ _ _ h)
        · have h := h.2 hc_7
          refine zm_goto (tgt := 240) C dX10_looks_70 (by decide) ?_
          exact zm_sub [0, 1, 2, 3] rfl (vb_X10_looks_240 C hr hL33 ih _ _ _ _ h)
def wb_X10_looks_42 (L33 : Int32 → Int32 → MU → Prop) (Q : MU → Prop) (x2 : Int32) (u : MU) : Prop := ∃ nn, wl_X10_looks_46 L33  Q nn (0 : Int32) x2 (0 : Int32) u
set_option maxHeartbeats 4000000 in
set_option maxRecDepth 100000 in
theorem vb_X10_looks_42 {p : Program} {l : Launch} {e : Env} {s : State} {m : MethodId} {args : Array Value} {below : List Frame} {meth : Method} {c : Code} {g : GE} {U : MU} {W : (Nat → Int64) × (Nat → UInt64)} {Q : MU → Prop} (C : zCx p l s m args meth c g RX10 cX10_looks 9) (hr : meth.sig.returnType = (Option.none : Option Jvm.ClassFile.FieldType)) {L33 : Int32 → Int32 → MU → Prop} (hL33 : ∀ (x1 : Int32) (x2 : Int32) (u : MU), L33 x1 x2 u → WM p l e rm_X10_looks s m args below meth c g 9 0 0 (MQ below (zQv g (zPmv U W Q)) args s 0 0 (zA g)) 33 [(0, .ref (g.2.2.1 117)), (1, .int x1), (2, .int x2)] [] (U, u, W)) (x2 : Int32) (u : MU) (h : wb_X10_looks_42 L33  Q x2 u) : WM p l e rm_X10_looks s m args below meth c g 9 0 0 (MQ below (zQv g (zPmv U W Q)) args s 0 0 (zA g)) 42 [(0, .ref (g.2.2.1 117)), (2, .int x2)] [] (U, u, W) := by
  unfold wb_X10_looks_42 at h
  refine zm_iconst (v := 0) C dX10_looks_42 (by decide) ?_
  refine zm_istore_n (lv' := [(1, .int (0 : Int32)), (0, .ref (g.2.2.1 117)), (2, .int x2)]) C dX10_looks_43 rfl (by decide) rfl ?_
  refine zm_iconst (v := 0) C dX10_looks_44 (by decide) ?_
  refine zm_istore_n (lv' := [(3, .int (0 : Int32)), (1, .int (0 : Int32)), (0, .ref (g.2.2.1 117)), (2, .int x2)]) C dX10_looks_45 rfl (by decide) rfl ?_
  obtain ⟨nn, h⟩ := h
  exact zm_sub [2, 1, 3, 0] rfl (vl_X10_looks_46 C hr hL33 nn _ _ _ _ h)
def wl_X10_looks_33 (Q : MU → Prop) : Nat → Int32 → Int32 → MU → Prop
  | 0, _, _, _ => False
  | n + 1, x1, x2, u => ((¬ x1 = 0) → wb_X10_looks_42 (fun x1' x2' u' => wl_X10_looks_33  Q n x1' x2' u')  Q x2 u) ∧ ((x1 = 0) → (((2 : Int32) ≤ x2) → Q u) ∧ ((¬ (2 : Int32) ≤ x2) → wb_X10_looks_42 (fun x1' x2' u' => wl_X10_looks_33  Q n x1' x2' u')  Q x2 u))
set_option maxHeartbeats 4000000 in
set_option maxRecDepth 100000 in
theorem vl_X10_looks_33 {p : Program} {l : Launch} {e : Env} {s : State} {m : MethodId} {args : Array Value} {below : List Frame} {meth : Method} {c : Code} {g : GE} {U : MU} {W : (Nat → Int64) × (Nat → UInt64)} {Q : MU → Prop} (C : zCx p l s m args meth c g RX10 cX10_looks 9) (hr : meth.sig.returnType = (Option.none : Option Jvm.ClassFile.FieldType)) : ∀ (n : Nat) (x1 : Int32) (x2 : Int32) (u : MU) , wl_X10_looks_33   Q n x1 x2 u → WM p l e rm_X10_looks s m args below meth c g 9 0 0 (MQ below (zQv g (zPmv U W Q)) args s 0 0 (zA g)) 33 [(0, .ref (g.2.2.1 117)), (1, .int x1), (2, .int x2)] [] (U, u, W) := by
  intro n
  induction n with
  | zero => intro _ _ _ h; exact h.elim
  | succ n ih =>
    intro x1 x2 u h
    unfold wl_X10_looks_33 at h
    refine zm_iload_n C dX10_looks_33 rfl 1 rfl ?_
    refine zm_if_ne (tgt := 42) C dX10_looks_34 (by decide) (fun hc_1 => ?_) (fun hc_1 => ?_)
    · have h := h.1 hc_1
      exact zm_sub [0, 2] rfl (vb_X10_looks_42 C hr ih _ _ h)
    · have h := h.2 hc_1
      refine zm_iload_n C dX10_looks_37 rfl 2 rfl ?_
      refine zm_iconst (v := 2) C dX10_looks_38 (by decide) ?_
      refine zm_icmp_ge (tgt := 252) C dX10_looks_39 (by decide) (fun hc_2 => ?_) (fun hc_2 => ?_)
      · have h := h.1 hc_2
        exact zm_vret C hr dX10_looks_252 ⟨_, rfl, h⟩
      · have h := h.2 hc_2
        exact zm_sub [0, 2] rfl (vb_X10_looks_42 C hr ih _ _ h)
def wl_X10_looks_2 (Q : MU → Prop) : Nat → Int32 → MU → Prop
  | 0, _, _ => False
  | n + 1, x1, u => (((1296 : Int32) ≤ x1) → ∃ nn, wl_X10_looks_33   Q nn (1 : Int32) (0 : Int32) u) ∧ ((¬ (1296 : Int32) ≤ x1) → vp_in x1 1296 ∧ (∀ u_3, u_3 = u2 u 126 (x1).toNatClampNeg (0 : Int32) → vp_in x1 1296 ∧ (∀ u_5, u_5 = u2 u_3 127 (x1).toNatClampNeg (-1 : Int32) → ∀ x1_6, x1_6 = x1 + (1 : Int32) → wl_X10_looks_2   Q n x1_6 u_5)))
set_option maxHeartbeats 4000000 in
set_option maxRecDepth 100000 in
theorem vl_X10_looks_2 {p : Program} {l : Launch} {e : Env} {s : State} {m : MethodId} {args : Array Value} {below : List Frame} {meth : Method} {c : Code} {g : GE} {U : MU} {W : (Nat → Int64) × (Nat → UInt64)} {Q : MU → Prop} (C : zCx p l s m args meth c g RX10 cX10_looks 9) (hr : meth.sig.returnType = (Option.none : Option Jvm.ClassFile.FieldType)) : ∀ (n : Nat) (x1 : Int32) (u : MU) , wl_X10_looks_2   Q n x1 u → WM p l e rm_X10_looks s m args below meth c g 9 0 0 (MQ below (zQv g (zPmv U W Q)) args s 0 0 (zA g)) 2 [(0, .ref (g.2.2.1 117)), (1, .int x1)] [] (U, u, W) := by
  intro n
  induction n with
  | zero => intro _ _ h; exact h.elim
  | succ n ih =>
    intro x1 u h
    unfold wl_X10_looks_2 at h
    refine zm_iload_n C dX10_looks_2 rfl 1 rfl ?_
    refine zm_sipush (v := 1296) C dX10_looks_3 (by decide) ?_
    refine zm_icmp_ge (tgt := 29) C dX10_looks_6 (by decide) (fun hc_1 => ?_) (fun hc_1 => ?_)
    · have h := h.1 hc_1
      refine zm_iconst (v := 1) C dX10_looks_29 (by decide) ?_
      refine zm_istore_n (lv' := [(1, .int (1 : Int32)), (0, .ref (g.2.2.1 117))]) C dX10_looks_30 rfl (by decide) rfl ?_
      refine zm_iconst (v := 0) C dX10_looks_31 (by decide) ?_
      refine zm_istore_n (lv' := [(2, .int (0 : Int32)), (1, .int (1 : Int32)), (0, .ref (g.2.2.1 117))]) C dX10_looks_32 rfl (by decide) rfl ?_
      obtain ⟨nn, h⟩ := h
      exact zm_sub [2, 1, 0] rfl (vl_X10_looks_33 C hr  nn _ _ _ h)
    · have h := h.2 hc_1
      refine zm_aload_n C dX10_looks_9 rfl 0 rfl ?_
      refine gf_RX10_39 (k1 := 126) C kd_117 rfl dX10_looks_10 ?_
      refine zm_iload_n C dX10_looks_13 rfl 1 rfl ?_
      refine zm_iconst (v := 0) C dX10_looks_14 (by decide) ?_
      obtain ⟨hg_2, h⟩ := h
      refine zq_st_m C kd_126 ln_126 hg_2 dX10_looks_15 (fun u_3 hu_3 => ?_)
      have h := h u_3 hu_3
      refine zm_aload_n C dX10_looks_16 rfl 0 rfl ?_
      refine gf_RX10_42 (k1 := 127) C kd_117 rfl dX10_looks_17 ?_
      refine zm_iload_n C dX10_looks_20 rfl 1 rfl ?_
      refine zm_iconst (v := -1) C dX10_looks_21 (by decide) ?_
      obtain ⟨hg_4, h⟩ := h
      refine zq_st_m C kd_127 ln_127 hg_4 dX10_looks_22 (fun u_5 hu_5 => ?_)
      have h := h u_5 hu_5
      obtain ⟨x1_6, hx1_6⟩ : ∃ z, z = x1 + (1 : Int32) := ⟨_, rfl⟩
      have h := h x1_6 hx1_6
      refine zm_iinc (v := x1_6) (lv' := [(1, .int x1_6), (0, .ref (g.2.2.1 117))]) C dX10_looks_23 1 rfl (by rw [hx1_6]; rfl) (by decide) rfl ?_
      refine zm_goto (tgt := 2) C dX10_looks_26 (by decide) ?_
      exact zm_sub [1, 0] rfl (ih _ _ h)
def w_X10_looks (u : MU) (Q : MU → Prop) : Prop := ∃ nn, wl_X10_looks_2   Q nn (0 : Int32) u
set_option maxHeartbeats 4000000 in
set_option maxRecDepth 100000 in
theorem c_X10_looks (l : Launch) (g : GE) (U : MU) (u : MU) (W : (Nat → Int64) × (Nat → UInt64)) {Q : MU → Prop} (h : w_X10_looks u Q) : Met l yX10_looks (.code yX10_looks cX10_looks 9 (Option.none : Option Jvm.ClassFile.FieldType) :: TB) rm_X10_looks (zPc g (U, u, W) [.ref (g.2.2.1 117)]) (zQv g (zPmv U W Q)) 0 0 (zA g) := by
  unfold w_X10_looks at h
  refine zMet (own := RX10) [(0, .ref (g.2.2.1 117))] (by decide +kernel) rfl (Nat.le_of_ble_eq_true rfl) rfl (fun p e s m args below meth c C hr => ?_)
  refine zm_iconst (v := 0) C dX10_looks_0 (by decide) ?_
  refine zm_istore_n (lv' := [(1, .int (0 : Int32)), (0, .ref (g.2.2.1 117))]) C dX10_looks_1 rfl (by decide) rfl ?_
  obtain ⟨nn, h⟩ := h
  exact zm_sub [1, 0] rfl (vl_X10_looks_2 C hr  nn _ _ h)
abbrev rm_X10_knows : Room := { frames := 5, cells := 0, slots := 0, locals := 115 }
def wb_X10_knows_20 (Q : MU → Prop) (u : MU) : Prop := (∀ u_1, u_1 = u2 u 117 22 (1 : Int32) → Q u_1)
set_option maxHeartbeats 4000000 in
set_option maxRecDepth 100000 in
theorem vb_X10_knows_20 {p : Program} {l : Launch} {e : Env} {s : State} {m : MethodId} {args : Array Value} {below : List Frame} {meth : Method} {c : Code} {g : GE} {U : MU} {W : (Nat → Int64) × (Nat → UInt64)} {Q : MU → Prop} (C : zCx p l s m args meth c g RX10 cX10_knows 1) (hr : meth.sig.returnType = (Option.none : Option Jvm.ClassFile.FieldType)) (u : MU) (h : wb_X10_knows_20   Q  u) : WM p l e rm_X10_knows s m args below meth c g 1 0 0 (MQ below (zQv g (zPmv U W Q)) args s 0 0 (zA g)) 20 [(0, .ref (g.2.2.1 117))] [] (U, u, W) := by
  unfold wb_X10_knows_20 at h
  refine zm_aload_n C dX10_knows_20 rfl 0 rfl ?_
  refine zm_iconst (v := 1) C dX10_knows_21 (by decide) ?_
  refine pf_RX10_57 C kd_117 (by decide) (by decide) dX10_knows_22 (fun u_1 hu_1 => ?_)
  have h := h u_1 hu_1
  exact zm_vret C hr dX10_knows_25 ⟨_, rfl, h⟩
def w_X10_knows (u : MU) (Q : MU → Prop) : Prop := (∀ u_1, u_1 = u2 u 117 17 (0 : Int32) → w_X10_nears  u_1 (fun u_3 => ((¬ (u_3 117 22) = 0) → wb_X10_knows_20   Q u_3) ∧ (((u_3 117 22) = 0) → w_X10_looks  u_3 (fun u_6 => wb_X10_knows_20   Q u_6))))
set_option maxHeartbeats 4000000 in
set_option maxRecDepth 100000 in
theorem c_X10_knows (l : Launch) (g : GE) (U : MU) (u : MU) (W : (Nat → Int64) × (Nat → UInt64)) {Q : MU → Prop} (h : w_X10_knows u Q) : Met l yX10_knows (.code yX10_knows cX10_knows 1 (Option.none : Option Jvm.ClassFile.FieldType) :: TB) rm_X10_knows (zPc g (U, u, W) [.ref (g.2.2.1 117)]) (zQv g (zPmv U W Q)) 0 0 (zA g) := by
  unfold w_X10_knows at h
  refine zMet (own := RX10) [(0, .ref (g.2.2.1 117))] (by decide +kernel) rfl (Nat.le_of_ble_eq_true rfl) rfl (fun p e s m args below meth c C hr => ?_)
  refine zm_aload_n C dX10_knows_0 rfl 0 rfl ?_
  refine zm_iconst (v := 0) C dX10_knows_1 (by decide) ?_
  refine pf_RX10_54 C kd_117  dX10_knows_2 (fun u_1 hu_1 => ?_)
  have h := h u_1 hu_1
  refine zm_aload_n C dX10_knows_5 rfl 0 rfl ?_
  refine zm_cv (zr_V (As := []) (rest := []) C (c_X10_nears l g U u_1 W  h) wd_1285 wd_1287 wp_46 wd_11 wd_1288 hy_X10_nears rfl rfl ⟨by decide, by decide⟩ ⟨by decide, by decide⟩ (ci := 10) (by decide) (zCell_k kd_117) rfl rfl rfl rfl (Nat.le_of_ble_eq_true rfl) dX10_knows_6) (fun M1 hq => ?_)
  obtain ⟨u_3, rfl, h⟩ := hq
  refine zm_aload_n C dX10_knows_9 rfl 0 rfl ?_
  refine gf_RX10_57 C kd_117 dX10_knows_10 ?_
  refine zm_if_ne (tgt := 20) C dX10_knows_13 (by decide) (fun hc_4 => ?_) (fun hc_4 => ?_)
  · have h := h.1 hc_4
    exact zm_sub [0] rfl (vb_X10_knows_20 C hr  _ h)
  · have h := h.2 hc_4
    refine zm_aload_n C dX10_knows_16 rfl 0 rfl ?_
    refine zm_cv (zr_V (As := []) (rest := []) C (c_X10_looks l g U u_3 W  h) wd_1328 wd_1330 wp_52 wd_11 wd_1331 hy_X10_looks rfl rfl ⟨by decide, by decide⟩ ⟨by decide, by decide⟩ (ci := 10) (by decide) (zCell_k kd_117) rfl rfl rfl rfl (Nat.le_of_ble_eq_true rfl) dX10_knows_17) (fun M1 hq => ?_)
    obtain ⟨u_6, rfl, h⟩ := hq
    exact zm_sub [0] rfl (vb_X10_knows_20 C hr  _ h)
