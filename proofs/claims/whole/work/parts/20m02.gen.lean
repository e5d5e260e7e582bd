abbrev rm_X10_moveOf : Room := { frames := 6, cells := 0, slots := 0, locals := 135 }
def w_X10_moveOf (x1 : Int32) (x2 : Int32) (x3 : Int32) (u : MU) (Q : Int32 → MU → Prop) : Prop := w_X10_knows  u (fun u_2 => w_X10_isPosition u_2 x1 (fun r_3 => ((¬ r_3 = 0) → w_X10_finds x1 u_2 (fun u_7 => w_X10_in x2 (0 : Int32) ((u_7 117 25) - (1 : Int32)) (fun r_8 => ((¬ r_8 = 0) → ((x3 = 0) → vp_in x2 24 ∧ (Q (u_7 129 (x2).toNatClampNeg) u_7)) ∧ ((¬ x3 = 0) → vp_in x2 24 ∧ (Q (u_7 130 (x2).toNatClampNeg) u_7))) ∧ ((r_8 = 0) → w_X10_raises (1 : Int32) u_7 (fun r_14 u_15 => Q r_14 u_15))))) ∧ ((r_3 = 0) → w_X10_raises (1 : Int32) u_2 (fun r_16 u_17 => Q r_16 u_17))))
set_option maxHeartbeats 4000000 in
set_option maxRecDepth 100000 in
theorem c_X10_moveOf (l : Launch) (g : GE) (U : MU) (u : MU) (W : (Nat → Int64) × (Nat → UInt64)) (x1 : Int32) (x2 : Int32) (x3 : Int32) {Q : Int32 → MU → Prop} (h : w_X10_moveOf x1 x2 x3 u Q) : Met l yX10_moveOf (.code yX10_moveOf cX10_moveOf 4 (Option.some Jvm.ClassFile.FieldType.int) :: TB) rm_X10_moveOf (zPc g (U, u, W) [.ref (g.2.2.1 117), .int x1, .int x2, .int x3]) (zQi g (zPm U W Q)) 0 0 (zA g) := by
  unfold w_X10_moveOf at h
  refine zMet (own := RX10) [(0, .ref (g.2.2.1 117)), (1, .int x1), (2, .int x2), (3, .int x3)] (by decide +kernel) rfl (Nat.le_of_ble_eq_true rfl) rfl (fun p e s m args below meth c C hr => ?_)
  refine zm_aload_n C dX10_moveOf_0 rfl 0 rfl ?_
  refine zm_cv (zr_V (As := []) (rest := []) C (c_X10_knows l g U u W  h) wd_1352 wd_1354 wp_55 wd_11 wd_1355 hy_X10_knows rfl rfl ⟨by decide, by decide⟩ ⟨by decide, by decide⟩ (ci := 10) (by decide) (zCell_k kd_117) rfl rfl rfl rfl (Nat.le_of_ble_eq_true rfl) dX10_moveOf_1) (fun M1 hq => ?_)
  obtain ⟨u_2, rfl, h⟩ := hq
  refine zm_aload_n C dX10_moveOf_4 rfl 0 rfl ?_
  refine zm_iload_n C dX10_moveOf_5 rfl 1 rfl ?_
  refine zm_ci (zr_V (As := [.int x1]) (rest := []) C (c_X10_isPosition l g U u_2 W x1 h) wd_1268 wd_1270 wp_44 wd_11 wd_1271 hy_X10_isPosition rfl rfl ⟨by decide, by decide⟩ ⟨by decide, by decide⟩ (ci := 10) (by decide) (zCell_k kd_117) rfl rfl rfl rfl (Nat.le_of_ble_eq_true rfl) dX10_moveOf_6) (fun r_3 M1 hq => ?_)
  obtain ⟨rfl, h⟩ := hq
  refine zm_if_ne (tgt := 18) C dX10_moveOf_9 (by decide) (fun hc_5 => ?_) (fun hc_5 => ?_)
  · have h := h.1 hc_5
    refine zm_aload_n C dX10_moveOf_18 rfl 0 rfl ?_
    refine zm_iload_n C dX10_moveOf_19 rfl 1 rfl ?_
    refine zm_cv (zr_V (As := [.int x1]) (rest := []) C (c_X10_finds l g U u_2 W x1 h) wd_1289 wd_1291 wp_47 wd_11 wd_1292 hy_X10_finds rfl rfl ⟨by decide, by decide⟩ ⟨by decide, by decide⟩ (ci := 10) (by decide) (zCell_k kd_117) rfl rfl rfl rfl (Nat.le_of_ble_eq_true rfl) dX10_moveOf_20) (fun M1 hq => ?_)
    obtain ⟨u_7, rfl, h⟩ := hq
    refine zm_iload_n C dX10_moveOf_23 rfl 2 rfl ?_
    refine zm_iconst (v := 0) C dX10_moveOf_24 (by decide) ?_
    refine zm_aload_n C dX10_moveOf_25 rfl 0 rfl ?_
    refine gf_RX10_103 C kd_117 dX10_moveOf_26 ?_
    refine zm_iconst (v := 1) C dX10_moveOf_29 (by decide) ?_
    refine zm_isub C dX10_moveOf_30 ?_
    refine zm_ci (zr_S (As := [.int x2, .int (0 : Int32), .int ((u_7 117 25) - (1 : Int32))]) (rest := []) C (c_X10_in l g (U, u_7, W) x2 (0 : Int32) ((u_7 117 25) - (1 : Int32)) h) wd_1224 wd_1225 wd_11 wd_1226 hy_X10_in rfl rfl ⟨by decide, by decide⟩ ⟨by decide, by decide⟩ rfl rfl (Nat.le_of_ble_eq_true rfl) dX10_moveOf_31) (fun r_8 M1 hq => ?_)
    obtain ⟨rfl, h⟩ := hq
    refine zm_if_ne (tgt := 43) C dX10_moveOf_34 (by decide) (fun hc_10 => ?_) (fun hc_10 => ?_)
    · have h := h.1 hc_10
      refine zm_iload_n C dX10_moveOf_43 rfl 3 rfl ?_
      refine zm_if_eq (tgt := 56) C dX10_moveOf_44 (by decide) (fun hc_11 => ?_) (fun hc_11 => ?_)
      · have h := h.1 hc_11
        refine zm_aload_n C dX10_moveOf_56 rfl 0 rfl ?_
        refine gf_RX10_48 (k1 := 129) C kd_117 rfl dX10_moveOf_57 ?_
        refine zm_iload_n C dX10_moveOf_60 rfl 2 rfl ?_
        obtain ⟨hg_12, h⟩ := h
        refine zq_ld_m C kd_129 ln_129 hg_12 dX10_moveOf_61 ?_
        exact zm_iret C hr dX10_moveOf_62 ⟨_, rfl, h⟩
      · have h := h.2 hc_11
        refine zm_aload_n C dX10_moveOf_47 rfl 0 rfl ?_
        refine gf_RX10_51 (k1 := 130) C kd_117 rfl dX10_moveOf_48 ?_
        refine zm_iload_n C dX10_moveOf_51 rfl 2 rfl ?_
        obtain ⟨hg_13, h⟩ := h
        refine zq_ld_m C kd_130 ln_130 hg_13 dX10_moveOf_52 ?_
        refine zm_goto (tgt := 62) C dX10_moveOf_53 (by decide) ?_
        exact zm_iret C hr dX10_moveOf_62 ⟨_, rfl, h⟩
    · have h := h.2 hc_10
      refine zm_aload_n C dX10_moveOf_37 rfl 0 rfl ?_
      refine zm_iconst (v := 1) C dX10_moveOf_38 (by decide) ?_
      refine zm_ci (zr_V (As := [.int (1 : Int32)]) (rest := []) C (c_X10_raises l g U u_7 W (1 : Int32) h) wd_1204 wd_1206 wp_34 wd_11 wd_1207 hy_X10_raises rfl rfl ⟨by decide, by decide⟩ ⟨by decide, by decide⟩ (ci := 10) (by decide) (zCell_k kd_117) rfl rfl rfl rfl (Nat.le_of_ble_eq_true rfl) dX10_moveOf_39) (fun r_14 M1 hq => ?_)
      obtain ⟨u_15, rfl, h⟩ := hq
      exact zm_iret C hr dX10_moveOf_42 ⟨_, rfl, h⟩
  · have h := h.2 hc_5
    refine zm_aload_n C dX10_moveOf_12 rfl 0 rfl ?_
    refine zm_iconst (v := 1) C dX10_moveOf_13 (by decide) ?_
    refine zm_ci (zr_V (As := [.int (1 : Int32)]) (rest := []) C (c_X10_raises l g U u_2 W (1 : Int32) h) wd_1204 wd_1206 wp_34 wd_11 wd_1207 hy_X10_raises rfl rfl ⟨by decide, by decide⟩ ⟨by decide, by decide⟩ (ci := 10) (by decide) (zCell_k kd_117) rfl rfl rfl rfl (Nat.le_of_ble_eq_true rfl) dX10_moveOf_14) (fun r_16 M1 hq => ?_)
    obtain ⟨u_17, rfl, h⟩ := hq
    exact zm_iret C hr dX10_moveOf_17 ⟨_, rfl, h⟩
abbrev rm_X10_best : Room := { frames := 6, cells := 0, slots := 0, locals := 135 }
def w_X10_best (x1 : Int32) (u : MU) (Q : Int32 → MU → Prop) : Prop := w_X10_knows  u (fun u_2 => w_X10_isPosition u_2 x1 (fun r_3 => ((¬ r_3 = 0) → w_X10_bestPlace x1 u_2 (fun r_6 u_7 => ((0 ≤ r_6) → vp_in r_6 24 ∧ (vp_in r_6 24 ∧ (Q (((8 : Int32) * (u_7 129 (r_6).toNatClampNeg)) + (u_7 130 (r_6).toNatClampNeg)) u_7))) ∧ ((¬ 0 ≤ r_6) → w_X10_raises (1 : Int32) u_7 (fun r_11 u_12 => Q r_11 u_12)))) ∧ ((r_3 = 0) → w_X10_raises (1 : Int32) u_2 (fun r_13 u_14 => Q r_13 u_14))))
set_option maxHeartbeats 4000000 in
set_option maxRecDepth 100000 in
theorem c_X10_best (l : Launch) (g : GE) (U : MU) (u : MU) (W : (Nat → Int64) × (Nat → UInt64)) (x1 : Int32) {Q : Int32 → MU → Prop} (h : w_X10_best x1 u Q) : Met l yX10_best (.code yX10_best cX10_best 3 (Option.some Jvm.ClassFile.FieldType.int) :: TB) rm_X10_best (zPc g (U, u, W) [.ref (g.2.2.1 117), .int x1]) (zQi g (zPm U W Q)) 0 0 (zA g) := by
  unfold w_X10_best at h
  refine zMet (own := RX10) [(0, .ref (g.2.2.1 117)), (1, .int x1)] (by decide +kernel) rfl (Nat.le_of_ble_eq_true rfl) rfl (fun p e s m args below meth c C hr => ?_)
  refine zm_aload_n C dX10_best_0 rfl 0 rfl ?_
  refine zm_cv (zr_V (As := []) (rest := []) C (c_X10_knows l g U u W  h) wd_1352 wd_1354 wp_55 wd_11 wd_1355 hy_X10_knows rfl rfl ⟨by decide, by decide⟩ ⟨by decide, by decide⟩ (ci := 10) (by decide) (zCell_k kd_117) rfl rfl rfl rfl (Nat.le_of_ble_eq_true rfl) dX10_best_1) (fun M1 hq => ?_)
  obtain ⟨u_2, rfl, h⟩ := hq
  refine zm_aload_n C dX10_best_4 rfl 0 rfl ?_
  refine zm_iload_n C dX10_best_5 rfl 1 rfl ?_
  refine zm_ci (zr_V (As := [.int x1]) (rest := []) C (c_X10_isPosition l g U u_2 W x1 h) wd_1268 wd_1270 wp_44 wd_11 wd_1271 hy_X10_isPosition rfl rfl ⟨by decide, by decide⟩ ⟨by decide, by decide⟩ (ci := 10) (by decide) (zCell_k kd_117) rfl rfl rfl rfl (Nat.le_of_ble_eq_true rfl) dX10_best_6) (fun r_3 M1 hq => ?_)
  obtain ⟨rfl, h⟩ := hq
  refine zm_if_ne (tgt := 18) C dX10_best_9 (by decide) (fun hc_5 => ?_) (fun hc_5 => ?_)
  · have h := h.1 hc_5
    refine zm_aload_n C dX10_best_18 rfl 0 rfl ?_
    refine zm_iload_n C dX10_best_19 rfl 1 rfl ?_
    refine zm_ci (zr_V (As := [.int x1]) (rest := []) C (c_X10_bestPlace l g U u_2 W x1 h) wd_1332 wd_1334 wp_53 wd_11 wd_1335 hy_X10_bestPlace rfl rfl ⟨by decide, by decide⟩ ⟨by decide, by decide⟩ (ci := 10) (by decide) (zCell_k kd_117) rfl rfl rfl rfl (Nat.le_of_ble_eq_true rfl) dX10_best_20) (fun r_6 M1 hq => ?_)
    obtain ⟨u_7, rfl, h⟩ := hq
    refine zm_istore_n (lv' := [(2, .int r_6), (0, .ref (g.2.2.1 117)), (1, .int x1)]) C dX10_best_23 rfl (by decide) rfl ?_
    refine zm_iload_n C dX10_best_24 rfl 0 rfl ?_
    refine zm_if_ge (tgt := 36) C dX10_best_25 (by decide) (fun hc_8 => ?_) (fun hc_8 => ?_)
    · have h := h.1 hc_8
      refine zm_bipush (v := 8) C dX10_best_36 (by decide) ?_
      refine zm_aload_n C dX10_best_38 rfl 1 rfl ?_
      refine gf_RX10_48 (k1 := 129) C kd_117 rfl dX10_best_39 ?_
      refine zm_iload_n C dX10_best_42 rfl 0 rfl ?_
      obtain ⟨hg_9, h⟩ := h
      refine zq_ld_m C kd_129 ln_129 hg_9 dX10_best_43 ?_
      refine zm_imul C dX10_best_44 ?_
      refine zm_aload_n C dX10_best_45 rfl 1 rfl ?_
      refine gf_RX10_51 (k1 := 130) C kd_117 rfl dX10_best_46 ?_
      refine zm_iload_n C dX10_best_49 rfl 0 rfl ?_
      obtain ⟨hg_10, h⟩ := h
      refine zq_ld_m C kd_130 ln_130 hg_10 dX10_best_50 ?_
      refine zm_iadd C dX10_best_51 ?_
      exact zm_iret C hr dX10_best_52 ⟨_, rfl, h⟩
    · have h := h.2 hc_8
      refine zm_aload_n C dX10_best_28 rfl 1 rfl ?_
      refine zm_iconst (v := 1) C dX10_best_29 (by decide) ?_
      refine zm_ci (zr_V (As := [.int (1 : Int32)]) (rest := []) C (c_X10_raises l g U u_7 W (1 : Int32) h) wd_1204 wd_1206 wp_34 wd_11 wd_1207 hy_X10_raises rfl rfl ⟨by decide, by decide⟩ ⟨by decide, by decide⟩ (ci := 10) (by decide) (zCell_k kd_117) rfl rfl rfl rfl (Nat.le_of_ble_eq_true rfl) dX10_best_30) (fun r_11 M1 hq => ?_)
      obtain ⟨u_12, rfl, h⟩ := hq
      refine zm_goto (tgt := 52) C dX10_best_33 (by decide) ?_
      exact zm_iret C hr dX10_best_52 ⟨_, rfl, h⟩
  · have h := h.2 hc_5
    refine zm_aload_n C dX10_best_12 rfl 0 rfl ?_
    refine zm_iconst (v := 1) C dX10_best_13 (by decide) ?_
    refine zm_ci (zr_V (As := [.int (1 : Int32)]) (rest := []) C (c_X10_raises l g U u_2 W (1 : Int32) h) wd_1204 wd_1206 wp_34 wd_11 wd_1207 hy_X10_raises rfl rfl ⟨by decide, by decide⟩ ⟨by decide, by decide⟩ (ci := 10) (by decide) (zCell_k kd_117) rfl rfl rfl rfl (Nat.le_of_ble_eq_true rfl) dX10_best_14) (fun r_13 M1 hq => ?_)
    obtain ⟨u_14, rfl, h⟩ := hq
    exact zm_iret C hr dX10_best_17 ⟨_, rfl, h⟩
abbrev rm_X10_after : Room := { frames := 6, cells := 0, slots := 0, locals := 135 }
def wb_X10_after_64 (L26 : Int32 → Int32 → Int32 → Int32 → MU → Prop) (Q : Int32 → MU → Prop) (x1 : Int32) (x2 : Int32) (x3 : Int32) (x4 : Int32) (u : MU) : Prop := ∀ x4_1, x4_1 = x4 + (1 : Int32) → L26 x1 x2 x3 x4_1 u
set_option maxHeartbeats 4000000 in
set_option maxRecDepth 100000 in
theorem vb_X10_after_64 {p : Program} {l : Launch} {e : Env} {s : State} {m : MethodId} {args : Array Value} {below : List Frame} {meth : Method} {c : Code} {g : GE} {U : MU} {W : (Nat → Int64) × (Nat → UInt64)} {Q : Int32 → MU → Prop} (C : zCx p l s m args meth c g RX10 cX10_after 5) (hr : meth.sig.returnType = (Option.some Jvm.ClassFile.FieldType.int)) {L26 : Int32 → Int32 → Int32 → Int32 → MU → Prop} (hL26 : ∀ (x1 : Int32) (x2 : Int32) (x3 : Int32) (x4 : Int32) (u : MU), L26 x1 x2 x3 x4 u → WM p l e rm_X10_after s m args below meth c g 5 0 0 (MQ below (zQi g (zPm U W Q)) args s 0 0 (zA g)) 26 [(0, .ref (g.2.2.1 117)), (1, .int x1), (2, .int x2), (3, .int x3), (4, .int x4)] [] (U, u, W)) (x1 : Int32) (x2 : Int32) (x3 : Int32) (x4 : Int32) (u : MU) (h : wb_X10_after_64 L26  Q x1 x2 x3 x4 u) : WM p l e rm_X10_after s m args below meth c g 5 0 0 (MQ below (zQi g (zPm U W Q)) args s 0 0 (zA g)) 64 [(0, .ref (g.2.2.1 117)), (1, .int x1), (2, .int x2), (3, .int x3), (4, .int x4)] [] (U, u, W) := by
  unfold wb_X10_after_64 at h
  obtain ⟨x4_1, hx4_1⟩ : ∃ z, z = x4 + (1 : Int32) := ⟨_, rfl⟩
  have h := h x4_1 hx4_1
  refine zm_iinc (v := x4_1) (lv' := [(4, .int x4_1), (0, .ref (g.2.2.1 117)), (1, .int x1), (2, .int x2), (3, .int x3)]) C dX10_after_64 4 rfl (by rw [hx4_1]; rfl) (by decide) rfl ?_
  refine zm_goto (tgt := 26) C dX10_after_67 (by decide) ?_
  exact zm_sub [1, 2, 3, 4, 0] rfl (hL26 _ _ _ _ _ h)
def wl_X10_after_26 (Q : Int32 → MU → Prop) : Nat → Int32 → Int32 → Int32 → Int32 → MU → Prop
  | 0, _, _, _, _, _ => False
  | n + 1, x1, x2, x3, x4, u => (((u 117 25) ≤ x4) → w_X10_raises (1 : Int32) u (fun r_2 u_3 => Q r_2 u_3)) ∧ ((¬ (u 117 25) ≤ x4) → vp_in x4 24 ∧ (((¬ (u 129 (x4).toNatClampNeg) = x2) → wb_X10_after_64 (fun x1' x2' x3' x4' u' => wl_X10_after_26  Q n x1' x2' x3' x4' u')  Q x1 x2 x3 x4 u) ∧ (((u 129 (x4).toNatClampNeg) = x2) → vp_in x4 24 ∧ (((¬ (u 130 (x4).toNatClampNeg) = x3) → wb_X10_after_64 (fun x1' x2' x3' x4' u' => wl_X10_after_26  Q n x1' x2' x3' x4' u')  Q x1 x2 x3 x4 u) ∧ (((u 130 (x4).toNatClampNeg) = x3) → w_X10_behind x1 x2 x3 (fun r_8 => Q r_8 u))))))
set_option maxHeartbeats 4000000 in
set_option maxRecDepth 100000 in
theorem vl_X10_after_26 {p : Program} {l : Launch} {e : Env} {s : State} {m : MethodId} {args : Array Value} {below : List Frame} {meth : Method} {c : Code} {g : GE} {U : MU} {W : (Nat → Int64) × (Nat → UInt64)} {Q : Int32 → MU → Prop} (C : zCx p l s m args meth c g RX10 cX10_after 5) (hr : meth.sig.returnType = (Option.some Jvm.ClassFile.FieldType.int)) : ∀ (n : Nat) (x1 : Int32) (x2 : Int32) (x3 : Int32) (x4 : Int32) (u : MU) , wl_X10_after_26   Q n x1 x2 x3 x4 u → WM p l e rm_X10_after s m args below meth c g 5 0 0 (MQ below (zQi g (zPm U W Q)) args s 0 0 (zA g)) 26 [(0, .ref (g.2.2.1 117)), (1, .int x1), (2, .int x2), (3, .int x3), (4, .int x4)] [] (U, u, W) := by
  intro n
  induction n with
  | zero => intro _ _ _ _ _ h; exact h.elim
  | succ n ih =>
    intro x1 x2 x3 x4 u h
    unfold wl_X10_after_26 at h
    refine zm_iload C dX10_after_26 4 rfl ?_
    refine zm_aload_n C dX10_after_28 rfl 0 rfl ?_
    refine gf_RX10_103 C kd_117 dX10_after_29 ?_
    refine zm_icmp_ge (tgt := 70) C dX10_after_32 (by decide) (fun hc_1 => ?_) (fun hc_1 => ?_)
    · have h := h.1 hc_1
      refine zm_aload_n C dX10_after_70 rfl 0 rfl ?_
      refine zm_iconst (v := 1) C dX10_after_71 (by decide) ?_
      refine zm_ci (zr_V (As := [.int (1 : Int32)]) (rest := []) C (c_X10_raises l g U u W (1 : Int32) h) wd_1204 wd_1206 wp_34 wd_11 wd_1207 hy_X10_raises rfl rfl ⟨by decide, by decide⟩ ⟨by decide, by decide⟩ (ci := 10) (by decide) (zCell_k kd_117) rfl rfl rfl rfl (Nat.le_of_ble_eq_true rfl) dX10_after_72) (fun r_2 M1 hq => ?_)
      obtain ⟨u_3, rfl, h⟩ := hq
      exact zm_iret C hr dX10_after_75 ⟨_, rfl, h⟩
    · have h := h.2 hc_1
      refine zm_aload_n C dX10_after_35 rfl 0 rfl ?_
      refine gf_RX10_48 (k1 := 129) C kd_117 rfl dX10_after_36 ?_
      refine zm_iload C dX10_after_39 4 rfl ?_
      obtain ⟨hg_4, h⟩ := h
      refine zq_ld_m C kd_129 ln_129 hg_4 dX10_after_41 ?_
      refine zm_iload_n C dX10_after_42 rfl 2 rfl ?_
      refine zm_icmp_ne (tgt := 64) C dX10_after_43 (by decide) (fun hc_5 => ?_) (fun hc_5 => ?_)
      · have h := h.1 hc_5
        exact zm_sub [0, 1, 2, 3, 4] rfl (vb_X10_after_64 C hr ih _ _ _ _ _ h)
      · have h := h.2 hc_5
        refine zm_aload_n C dX10_after_46 rfl 0 rfl ?_
        refine gf_RX10_51 (k1 := 130) C kd_117 rfl dX10_after_47 ?_
        refine zm_iload C dX10_after_50 4 rfl ?_
        obtain ⟨hg_6, h⟩ := h
        refine zq_ld_m C kd_130 ln_130 hg_6 dX10_after_52 ?_
        refine zm_iload_n C dX10_after_53 rfl 3 rfl ?_
        refine zm_icmp_ne (tgt := 64) C dX10_after_54 (by decide) (fun hc_7 => ?_) (fun hc_7 => ?_)
        · have h := h.1 hc_7
          exact zm_sub [0, 1, 2, 3, 4] rfl (vb_X10_after_64 C hr ih _ _ _ _ _ h)
        · have h := h.2 hc_7
          refine zm_iload_n C dX10_after_57 rfl 1 rfl ?_
          refine zm_iload_n C dX10_after_58 rfl 2 rfl ?_
          refine zm_iload_n C dX10_after_59 rfl 3 rfl ?_
          refine zm_ci (zr_S (As := [.int x1, .int x2, .int x3]) (rest := []) C (c_X10_behind l g (U, u, W) x1 x2 x3 h) wd_1312 wd_1313 wd_11 wd_1314 hy_X10_behind rfl rfl ⟨by decide, by decide⟩ ⟨by decide, by decide⟩ rfl rfl (Nat.le_of_ble_eq_true rfl) dX10_after_60) (fun r_8 M1 hq => ?_)
          obtain ⟨rfl, h⟩ := hq
          exact zm_iret C hr dX10_after_63 ⟨_, rfl, h⟩
def w_X10_after (x1 : Int32) (x2 : Int32) (x3 : Int32) (u : MU) (Q : Int32 → MU → Prop) : Prop := w_X10_knows  u (fun u_2 => w_X10_isPosition u_2 x1 (fun r_3 => ((¬ r_3 = 0) → w_X10_finds x1 u_2 (fun u_7 => ∃ nn, wl_X10_after_26   Q nn x1 x2 x3 (0 : Int32) u_7)) ∧ ((r_3 = 0) → w_X10_raises (1 : Int32) u_2 (fun r_8 u_9 => Q r_8 u_9))))
set_option maxHeartbeats 4000000 in
set_option maxRecDepth 100000 in
theorem c_X10_after (l : Launch) (g : GE) (U : MU) (u : MU) (W : (Nat → Int64) × (Nat → UInt64)) (x1 : Int32) (x2 : Int32) (x3 : Int32) {Q : Int32 → MU → Prop} (h : w_X10_after x1 x2 x3 u Q) : Met l yX10_after (.code yX10_after cX10_after 5 (Option.some Jvm.ClassFile.FieldType.int) :: TB) rm_X10_after (zPc g (U, u, W) [.ref (g.2.2.1 117), .int x1, .int x2, .int x3]) (zQi g (zPm U W Q)) 0 0 (zA g) := by
  unfold w_X10_after at h
  refine zMet (own := RX10) [(0, .ref (g.2.2.1 117)), (1, .int x1), (2, .int x2), (3, .int x3)] (by decide +kernel) rfl (Nat.le_of_ble_eq_true rfl) rfl (fun p e s m args below meth c C hr => ?_)
  refine zm_aload_n C dX10_after_0 rfl 0 rfl ?_
  refine zm_cv (zr_V (As := []) (rest := []) C (c_X10_knows l g U u W  h) wd_1352 wd_1354 wp_55 wd_11 wd_1355 hy_X10_knows rfl rfl ⟨by decide, by decide⟩ ⟨by decide, by decide⟩ (ci := 10) (by decide) (zCell_k kd_117) rfl rfl rfl rfl (Nat.le_of_ble_eq_true rfl) dX10_after_1) (fun M1 hq => ?_)
  obtain ⟨u_2, rfl, h⟩ := hq
  refine zm_aload_n C dX10_after_4 rfl 0 rfl ?_
  refine zm_iload_n C dX10_after_5 rfl 1 rfl ?_
  refine zm_ci (zr_V (As := [.int x1]) (rest := []) C (c_X10_isPosition l g U u_2 W x1 h) wd_1268 wd_1270 wp_44 wd_11 wd_1271 hy_X10_isPosition rfl rfl ⟨by decide, by decide⟩ ⟨by decide, by decide⟩ (ci := 10) (by decide) (zCell_k kd_117) rfl rfl rfl rfl (Nat.le_of_ble_eq_true rfl) dX10_after_6) (fun r_3 M1 hq => ?_)
  obtain ⟨rfl, h⟩ := hq
  refine zm_if_ne (tgt := 18) C dX10_after_9 (by decide) (fun hc_5 => ?_) (fun hc_5 => ?_)
  · have h := h.1 hc_5
    refine zm_aload_n C dX10_after_18 rfl 0 rfl ?_
    refine zm_iload_n C dX10_after_19 rfl 1 rfl ?_
    refine zm_cv (zr_V (As := [.int x1]) (rest := []) C (c_X10_finds l g U u_2 W x1 h) wd_1289 wd_1291 wp_47 wd_11 wd_1292 hy_X10_finds rfl rfl ⟨by decide, by decide⟩ ⟨by decide, by decide⟩ (ci := 10) (by decide) (zCell_k kd_117) rfl rfl rfl rfl (Nat.le_of_ble_eq_true rfl) dX10_after_20) (fun M1 hq => ?_)
    obtain ⟨u_7, rfl, h⟩ := hq
    refine zm_iconst (v := 0) C dX10_after_23 (by decide) ?_
    refine zm_istore (lv' := [(4, .int (0 : Int32)), (0, .ref (g.2.2.1 117)), (1, .int x1), (2, .int x2), (3, .int x3)]) C dX10_after_24 (by decide) rfl ?_
    obtain ⟨nn, h⟩ := h
    exact zm_sub [1, 2, 3, 4, 0] rfl (vl_X10_after_26 C hr  nn _ _ _ _ _ h)
  · have h := h.2 hc_5
    refine zm_aload_n C dX10_after_12 rfl 0 rfl ?_
    refine zm_iconst (v := 1) C dX10_after_13 (by decide) ?_
    refine zm_ci (zr_V (As := [.int (1 : Int32)]) (rest := []) C (c_X10_raises l g U u_2 W (1 : Int32) h) wd_1204 wd_1206 wp_34 wd_11 wd_1207 hy_X10_raises rfl rfl ⟨by decide, by decide⟩ ⟨by decide, by decide⟩ (ci := 10) (by decide) (zCell_k kd_117) rfl rfl rfl rfl (Nat.le_of_ble_eq_true rfl) dX10_after_14) (fun r_8 M1 hq => ?_)
    obtain ⟨u_9, rfl, h⟩ := hq
    exact zm_iret C hr dX10_after_17 ⟨_, rfl, h⟩
abbrev rm_X10_ends : Room := { frames := 6, cells := 0, slots := 0, locals := 135 }
def wb_X10_ends_21 (Q : Int32 → MU → Prop) (u : MU) : Prop := w_X10_raises (1 : Int32) u (fun r_1 u_2 => Q r_1 u_2)
set_option maxHeartbeats 4000000 in
set_option maxRecDepth 100000 in
theorem vb_X10_ends_21 {p : Program} {l : Launch} {e : Env} {s : State} {m : MethodId} {args : Array Value} {below : List Frame} {meth : Method} {c : Code} {g : GE} {U : MU} {W : (Nat → Int64) × (Nat → UInt64)} {Q : Int32 → MU → Prop} (C : zCx p l s m args meth c g RX10 cX10_ends 4) (hr : meth.sig.returnType = (Option.some Jvm.ClassFile.FieldType.int)) (u : MU) (h : wb_X10_ends_21   Q  u) : WM p l e rm_X10_ends s m args below meth c g 4 0 0 (MQ below (zQi g (zPm U W Q)) args s 0 0 (zA g)) 21 [(0, .ref (g.2.2.1 117))] [] (U, u, W) := by
  unfold wb_X10_ends_21 at h
  refine zm_aload_n C dX10_ends_21 rfl 0 rfl ?_
  refine zm_iconst (v := 1) C dX10_ends_22 (by decide) ?_
  refine zm_ci (zr_V (As := [.int (1 : Int32)]) (rest := []) C (c_X10_raises l g U u W (1 : Int32) h) wd_1204 wd_1206 wp_34 wd_11 wd_1207 hy_X10_raises rfl rfl ⟨by decide, by decide⟩ ⟨by decide, by decide⟩ (ci := 10) (by decide) (zCell_k kd_117) rfl rfl rfl rfl (Nat.le_of_ble_eq_true rfl) dX10_ends_23) (fun r_1 M1 hq => ?_)
  obtain ⟨u_2, rfl, h⟩ := hq
  exact zm_iret C hr dX10_ends_26 ⟨_, rfl, h⟩
def wl_X10_ends_35 (Q : Int32 → MU → Prop) : Nat → Int32 → Int32 → MU → Prop
  | 0, _, _, _ => False
  | n + 1, x2, x3, u => ((x3 < 0) → Q x2 u) ∧ ((¬ x3 < 0) → vp_in x3 24 ∧ (vp_in x3 24 ∧ (w_X10_behind x2 (u 129 (x3).toNatClampNeg) (u 130 (x3).toNatClampNeg) (fun r_4 => w_X10_bestPlace r_4 u (fun r_6 u_7 => wl_X10_ends_35   Q n r_4 r_6 u_7)))))
set_option maxHeartbeats 4000000 in
set_option maxRecDepth 100000 in
theorem vl_X10_ends_35 {p : Program} {l : Launch} {e : Env} {s : State} {m : MethodId} {args : Array Value} {below : List Frame} {meth : Method} {c : Code} {g : GE} {U : MU} {W : (Nat → Int64) × (Nat → UInt64)} {Q : Int32 → MU → Prop} (C : zCx p l s m args meth c g RX10 cX10_ends 4) (hr : meth.sig.returnType = (Option.some Jvm.ClassFile.FieldType.int)) : ∀ (n : Nat) (x2 : Int32) (x3 : Int32) (u : MU) , wl_X10_ends_35   Q n x2 x3 u → WM p l e rm_X10_ends s m args below meth c g 4 0 0 (MQ below (zQi g (zPm U W Q)) args s 0 0 (zA g)) 35 [(0, .ref (g.2.2.1 117)), (2, .int x2), (3, .int x3)] [] (U, u, W) := by
  intro n
  induction n with
  | zero => intro _ _ _ h; exact h.elim
  | succ n ih =>
    intro x2 x3 u h
    unfold wl_X10_ends_35 at h
    refine zm_iload_n C dX10_ends_35 rfl 2 rfl ?_
    refine zm_if_lt (tgt := 65) C dX10_ends_36 (by decide) (fun hc_1 => ?_) (fun hc_1 => ?_)
    · have h := h.1 hc_1
      refine zm_iload_n C dX10_ends_65 rfl 1 rfl ?_
      exact zm_iret C hr dX10_ends_66 ⟨_, rfl, h⟩
    · have h := h.2 hc_1
      refine zm_iload_n C dX10_ends_39 rfl 1 rfl ?_
      refine zm_aload_n C dX10_ends_40 rfl 0 rfl ?_
      refine gf_RX10_48 (k1 := 129) C kd_117 rfl dX10_ends_41 ?_
      refine zm_iload_n C dX10_ends_44 rfl 2 rfl ?_
      obtain ⟨hg_2, h⟩ := h
      refine zq_ld_m C kd_129 ln_129 hg_2 dX10_ends_45 ?_
      refine zm_aload_n C dX10_ends_46 rfl 0 rfl ?_
      refine gf_RX10_51 (k1 := 130) C kd_117 rfl dX10_ends_47 ?_
      refine zm_iload_n C dX10_ends_50 rfl 2 rfl ?_
      obtain ⟨hg_3, h⟩ := h
      refine zq_ld_m C kd_130 ln_130 hg_3 dX10_ends_51 ?_
      refine zm_ci (zr_S (As := [.int x2, .int (u 129 (x3).toNatClampNeg), .int (u 130 (x3).toNatClampNeg)]) (rest := []) C (c_X10_behind l g (U, u, W) x2 (u 129 (x3).toNatClampNeg) (u 130 (x3).toNatClampNeg) h) wd_1312 wd_1313 wd_11 wd_1314 hy_X10_behind rfl rfl ⟨by decide, by decide⟩ ⟨by decide, by decide⟩ rfl rfl (Nat.le_of_ble_eq_true rfl) dX10_ends_52) (fun r_4 M1 hq => ?_)
      obtain ⟨rfl, h⟩ := hq
      refine zm_istore_n (lv' := [(2, .int r_4), (0, .ref (g.2.2.1 117)), (3, .int x3)]) C dX10_ends_55 rfl (by decide) rfl ?_
      refine zm_aload_n C dX10_ends_56 rfl 1 rfl ?_
      refine zm_iload_n C dX10_ends_57 rfl 0 rfl ?_
      refine zm_ci (zr_V (As := [.int r_4]) (rest := []) C (c_X10_bestPlace l g U u W r_4 h) wd_1332 wd_1334 wp_53 wd_11 wd_1335 hy_X10_bestPlace rfl rfl ⟨by decide, by decide⟩ ⟨by decide, by decide⟩ (ci := 10) (by decide) (zCell_k kd_117) rfl rfl rfl rfl (Nat.le_of_ble_eq_true rfl) dX10_ends_58) (fun r_6 M1 hq => ?_)
      obtain ⟨u_7, rfl, h⟩ := hq
      refine zm_istore_n (lv' := [(3, .int r_6), (2, .int r_4), (0, .ref (g.2.2.1 117))]) C dX10_ends_61 rfl (by decide) rfl ?_
      refine zm_goto (tgt := 35) C dX10_ends_62 (by decide) ?_
      exact zm_sub [2, 1, 0] rfl (ih _ _ _ h)
def w_X10_ends (x1 : Int32) (u : MU) (Q : Int32 → MU → Prop) : Prop := w_X10_knows  u (fun u_2 => w_X10_isPosition u_2 x1 (fun r_3 => ((r_3 = 0) → wb_X10_ends_21   Q u_2) ∧ ((¬ r_3 = 0) → vp_in x1 1296 ∧ (((¬ (u_2 126 (x1).toNatClampNeg) = 0) → w_X10_bestPlace x1 u_2 (fun r_8 u_9 => ∃ nn, wl_X10_ends_35   Q nn x1 r_8 u_9)) ∧ (((u_2 126 (x1).toNatClampNeg) = 0) → wb_X10_ends_21   Q u_2)))))
set_option maxHeartbeats 4000000 in
set_option maxRecDepth 100000 in
theorem c_X10_ends (l : Launch) (g : GE) (U : MU) (u : MU) (W : (Nat → Int64) × (Nat → UInt64)) (x1 : Int32) {Q : Int32 → MU → Prop} (h : w_X10_ends x1 u Q) : Met l yX10_ends (.code yX10_ends cX10_ends 4 (Option.some Jvm.ClassFile.FieldType.int) :: TB) rm_X10_ends (zPc g (U, u, W) [.ref (g.2.2.1 117), .int x1]) (zQi g (zPm U W Q)) 0 0 (zA g) := by
  unfold w_X10_ends at h
  refine zMet (own := RX10) [(0, .ref (g.2.2.1 117)), (1, .int x1)] (by decide +kernel) rfl (Nat.le_of_ble_eq_true rfl) rfl (fun p e s m args below meth c C hr => ?_)
  refine zm_aload_n C dX10_ends_0 rfl 0 rfl ?_
  refine zm_cv (zr_V (As := []) (rest := []) C (c_X10_knows l g U u W  h) wd_1352 wd_1354 wp_55 wd_11 wd_1355 hy_X10_knows rfl rfl ⟨by decide, by decide⟩ ⟨by decide, by decide⟩ (ci := 10) (by decide) (zCell_k kd_117) rfl rfl rfl rfl (Nat.le_of_ble_eq_true rfl) dX10_ends_1) (fun M1 hq => ?_)
  obtain ⟨u_2, rfl, h⟩ := hq
  refine zm_aload_n C dX10_ends_4 rfl 0 rfl ?_
  refine zm_iload_n C dX10_ends_5 rfl 1 rfl ?_
  refine zm_ci (zr_V (As := [.int x1]) (rest := []) C (c_X10_isPosition l g U u_2 W x1 h) wd_1268 wd_1270 wp_44 wd_11 wd_1271 hy_X10_isPosition rfl rfl ⟨by decide, by decide⟩ ⟨by decide, by decide⟩ (ci := 10) (by decide) (zCell_k kd_117) rfl rfl rfl rfl (Nat.le_of_ble_eq_true rfl) dX10_ends_6) (fun r_3 M1 hq => ?_)
  obtain ⟨rfl, h⟩ := hq
  refine zm_if_eq (tgt := 21) C dX10_ends_9 (by decide) (fun hc_5 => ?_) (fun hc_5 => ?_)
  · have h := h.1 hc_5
    exact zm_sub [0] rfl (vb_X10_ends_21 C hr  _ h)
  · have h := h.2 hc_5
    refine zm_aload_n C dX10_ends_12 rfl 0 rfl ?_
    refine gf_RX10_39 (k1 := 126) C kd_117 rfl dX10_ends_13 ?_
    refine zm_iload_n C dX10_ends_16 rfl 1 rfl ?_
    obtain ⟨hg_6, h⟩ := h
    refine zq_ld_m C kd_126 ln_126 hg_6 dX10_ends_17 ?_
    refine zm_if_ne (tgt := 27) C dX10_ends_18 (by decide) (fun hc_7 => ?_) (fun hc_7 => ?_)
    · have h := h.1 hc_7
      refine zm_iload_n C dX10_ends_27 rfl 1 rfl ?_
      refine zm_istore_n (lv' := [(2, .int x1), (0, .ref (g.2.2.1 117)), (1, .int x1)]) C dX10_ends_28 rfl (by decide) rfl ?_
      refine zm_aload_n C dX10_ends_29 rfl 1 rfl ?_
      refine zm_iload_n C dX10_ends_30 rfl 0 rfl ?_
      refine zm_ci (zr_V (As := [.int x1]) (rest := []) C (c_X10_bestPlace l g U u_2 W x1 h) wd_1332 wd_1334 wp_53 wd_11 wd_1335 hy_X10_bestPlace rfl rfl ⟨by decide, by decide⟩ ⟨by decide, by decide⟩ (ci := 10) (by decide) (zCell_k kd_117) rfl rfl rfl rfl (Nat.le_of_ble_eq_true rfl) dX10_ends_31) (fun r_8 M1 hq => ?_)
      obtain ⟨u_9, rfl, h⟩ := hq
      refine zm_istore_n (lv' := [(3, .int r_8), (2, .int x1), (0, .ref (g.2.2.1 117)), (1, .int x1)]) C dX10_ends_34 rfl (by decide) rfl ?_
      obtain ⟨nn, h⟩ := h
      exact zm_sub [2, 1, 0] rfl (vl_X10_ends_35 C hr  nn _ _ _ h)
    · have h := h.2 hc_7
      exact zm_sub [0] rfl (vb_X10_ends_21 C hr  _ h)
abbrev rm_X10_count : Room := { frames := 6, cells := 0, slots := 0, locals := 135 }
def wb_X10_count_64 (L24 : Int32 → Int32 → Int32 → Int32 → MU → Prop) (Q : Int32 → MU → Prop) (x1 : Int32) (x2 : Int32) (x3 : Int32) (x4 : Int32) (u : MU) : Prop := ∀ x4_1, x4_1 = x4 + (1 : Int32) → L24 x1 x2 x3 x4_1 u
set_option maxHeartbeats 4000000 in
set_option maxRecDepth 100000 in
theorem vb_X10_count_64 {p : Program} {l : Launch} {e : Env} {s : State} {m : MethodId} {args : Array Value} {below : List Frame} {meth : Method} {c : Code} {g : GE} {U : MU} {W : (Nat → Int64) × (Nat → UInt64)} {Q : Int32 → MU → Prop} (C : zCx p l s m args meth c g RX10 cX10_count 5) (hr : meth.sig.returnType = (Option.some Jvm.ClassFile.FieldType.int)) {L24 : Int32 → Int32 → Int32 → Int32 → MU → Prop} (hL24 : ∀ (x1 : Int32) (x2 : Int32) (x3 : Int32) (x4 : Int32) (u : MU), L24 x1 x2 x3 x4 u → WM p l e rm_X10_count s m args below meth c g 5 0 0 (MQ below (zQi g (zPm U W Q)) args s 0 0 (zA g)) 24 [(0, .ref (g.2.2.1 117)), (1, .int x1), (2, .int x2), (3, .int x3), (4, .int x4)] [] (U, u, W)) (x1 : Int32) (x2 : Int32) (x3 : Int32) (x4 : Int32) (u : MU) (h : wb_X10_count_64 L24  Q x1 x2 x3 x4 u) : WM p l e rm_X10_count s m args below meth c g 5 0 0 (MQ below (zQi g (zPm U W Q)) args s 0 0 (zA g)) 64 [(0, .ref (g.2.2.1 117)), (1, .int x1), (2, .int x2), (3, .int x3), (4, .int x4)] [] (U, u, W) := by
  unfold wb_X10_count_64 at h
  obtain ⟨x4_1, hx4_1⟩ : ∃ z, z = x4 + (1 : Int32) := ⟨_, rfl⟩
  have h := h x4_1 hx4_1
  refine zm_iinc (v := x4_1) (lv' := [(4, .int x4_1), (0, .ref (g.2.2.1 117)), (1, .int x1), (2, .int x2), (3, .int x3)]) C dX10_count_64 4 rfl (by rw [hx4_1]; rfl) (by decide) rfl ?_
  refine zm_goto (tgt := 24) C dX10_count_67 (by decide) ?_
  exact zm_sub [1, 2, 3, 4, 0] rfl (hL24 _ _ _ _ _ h)
def wl_X10_count_24 (Q : Int32 → MU → Prop) : Nat → Int32 → Int32 → Int32 → Int32 → MU → Prop
  | 0, _, _, _, _, _ => False
  | n + 1, x1, x2, x3, x4, u => (((1296 : Int32) ≤ x4) → Q x3 u) ∧ ((¬ (1296 : Int32) ≤ x4) → w_X10_isPosition u x4 (fun r_2 => ((r_2 = 0) → wb_X10_count_64 (fun x1' x2' x3' x4' u' => wl_X10_count_24  Q n x1' x2' x3' x4' u')  Q x1 x2 x3 x4 u) ∧ ((¬ r_2 = 0) → w_X10_isGeese x4 (fun r_5 => ((¬ r_5 = x2) → wb_X10_count_64 (fun x1' x2' x3' x4' u' => wl_X10_count_24  Q n x1' x2' x3' x4' u')  Q x1 x2 x3 x4 u) ∧ ((r_5 = x2) → vp_in x4 1296 ∧ (((¬ (u 126 (x4).toNatClampNeg) = x1) → wb_X10_count_64 (fun x1' x2' x3' x4' u' => wl_X10_count_24  Q n x1' x2' x3' x4' u')  Q x1 x2 x3 x4 u) ∧ (((u 126 (x4).toNatClampNeg) = x1) → ∀ x3_10, x3_10 = x3 + (1 : Int32) → wb_X10_count_64 (fun x1' x2' x3' x4' u' => wl_X10_count_24  Q n x1' x2' x3' x4' u')  Q x1 x2 x3_10 x4 u)))))))
set_option maxHeartbeats 4000000 in
set_option maxRecDepth 100000 in
theorem vl_X10_count_24 {p : Program} {l : Launch} {e : Env} {s : State} {m : MethodId} {args : Array Value} {below : List Frame} {meth : Method} {c : Code} {g : GE} {U : MU} {W : (Nat → Int64) × (Nat → UInt64)} {Q : Int32 → MU → Prop} (C : zCx p l s m args meth c g RX10 cX10_count 5) (hr : meth.sig.returnType = (Option.some Jvm.ClassFile.FieldType.int)) : ∀ (n : Nat) (x1 : Int32) (x2 : Int32) (x3 : Int32) (x4 : Int32) (u : MU) , wl_X10_count_24   Q n x1 x2 x3 x4 u → WM p l e rm_X10_count s m args below meth c g 5 0 0 (MQ below (zQi g (zPm U W Q)) args s 0 0 (zA g)) 24 [(0, .ref (g.2.2.1 117)), (1, .int x1), (2, .int x2), (3, .int x3), (4, .int x4)] [] (U, u, W) := by
  intro n
  induction n with
  | zero => intro _ _ _ _ _ h; exact h.elim
  | succ n ih =>
    intro x1 x2 x3 x4 u h
    unfold wl_X10_count_24 at h
    refine zm_iload C dX10_count_24 4 rfl ?_
    refine zm_sipush (v := 1296) C dX10_count_26 (by decide) ?_
    refine zm_icmp_ge (tgt := 70) C dX10_count_29 (by decide) (fun hc_1 => ?_) (fun hc_1 => ?_)
    · have h := h.1 hc_1
      refine zm_iload_n C dX10_count_70 rfl 3 rfl ?_
      exact zm_iret C hr dX10_count_71 ⟨_, rfl, h⟩
    · have h := h.2 hc_1
      refine zm_aload_n C dX10_count_32 rfl 0 rfl ?_
      refine zm_iload C dX10_count_33 4 rfl ?_
      refine zm_ci (zr_V (As := [.int x4]) (rest := []) C (c_X10_isPosition l g U u W x4 h) wd_1268 wd_1270 wp_44 wd_11 wd_1271 hy_X10_isPosition rfl rfl ⟨by decide, by decide⟩ ⟨by decide, by decide⟩ (ci := 10) (by decide) (zCell_k kd_117) rfl rfl rfl rfl (Nat.le_of_ble_eq_true rfl) dX10_count_35) (fun r_2 M1 hq => ?_)
      obtain ⟨rfl, h⟩ := hq
      refine zm_if_eq (tgt := 64) C dX10_count_38 (by decide) (fun hc_4 => ?_) (fun hc_4 => ?_)
      · have h := h.1 hc_4
        exact zm_sub [0, 1, 2, 3, 4] rfl (vb_X10_count_64 C hr ih _ _ _ _ _ h)
      · have h := h.2 hc_4
        refine zm_iload C dX10_count_41 4 rfl ?_
        refine zm_ci (zr_S (As := [.int x4]) (rest := []) C (c_X10_isGeese l g (U, u, W) x4 h) wd_1293 wd_1294 wd_11 wd_1295 hy_X10_isGeese rfl rfl ⟨by decide, by decide⟩ ⟨by decide, by decide⟩ rfl rfl (Nat.le_of_ble_eq_true rfl) dX10_count_43) (fun r_5 M1 hq => ?_)
        obtain ⟨rfl, h⟩ := hq
        refine zm_iload_n C dX10_count_46 rfl 2 rfl ?_
        refine zm_icmp_ne (tgt := 64) C dX10_count_47 (by decide) (fun hc_7 => ?_) (fun hc_7 => ?_)
        · have h := h.1 hc_7
          exact zm_sub [0, 1, 2, 3, 4] rfl (vb_X10_count_64 C hr ih _ _ _ _ _ h)
        · have h := h.2 hc_7
          refine zm_aload_n C dX10_count_50 rfl 0 rfl ?_
          refine gf_RX10_39 (k1 := 126) C kd_117 rfl dX10_count_51 ?_
          refine zm_iload C dX10_count_54 4 rfl ?_
          obtain ⟨hg_8, h⟩ := h
          refine zq_ld_m C kd_126 ln_126 hg_8 dX10_count_56 ?_
          refine zm_iload_n C dX10_count_57 rfl 1 rfl ?_
          refine zm_icmp_ne (tgt := 64) C dX10_count_58 (by decide) (fun hc_9 => ?_) (fun hc_9 => ?_)
          · have h := h.1 hc_9
            exact zm_sub [0, 1, 2, 3, 4] rfl (vb_X10_count_64 C hr ih _ _ _ _ _ h)
          · have h := h.2 hc_9
            obtain ⟨x3_10, hx3_10⟩ : ∃ z, z = x3 + (1 : Int32) := ⟨_, rfl⟩
            have h := h x3_10 hx3_10
            refine zm_iinc (v := x3_10) (lv' := [(3, .int x3_10), (0, .ref (g.2.2.1 117)), (1, .int x1), (2, .int x2), (4, .int x4)]) C dX10_count_61 3 rfl (by rw [hx3_10]; rfl) (by decide) rfl ?_
            exact zm_sub [1, 2, 3, 0, 4] rfl (vb_X10_count_64 C hr ih _ _ _ _ _ h)
def w_X10_count (x1 : Int32) (x2 : Int32) (u : MU) (Q : Int32 → MU → Prop) : Prop := w_X10_knows  u (fun u_2 => w_X10_in x1 (0 : Int32) (2 : Int32) (fun r_3 => ((¬ r_3 = 0) → ∃ nn, wl_X10_count_24   Q nn x1 x2 (0 : Int32) (0 : Int32) u_2) ∧ ((r_3 = 0) → w_X10_raises (1 : Int32) u_2 (fun r_6 u_7 => Q r_6 u_7))))
set_option maxHeartbeats 4000000 in
set_option maxRecDepth 100000 in
theorem c_X10_count (l : Launch) (g : GE) (U : MU) (u : MU) (W : (Nat → Int64) × (Nat → UInt64)) (x1 : Int32) (x2 : Int32) {Q : Int32 → MU → Prop} (h : w_X10_count x1 x2 u Q) : Met l yX10_count (.code yX10_count cX10_count 5 (Option.some Jvm.ClassFile.FieldType.int) :: TB) rm_X10_count (zPc g (U, u, W) [.ref (g.2.2.1 117), .int x1, .int x2]) (zQi g (zPm U W Q)) 0 0 (zA g) := by
  unfold w_X10_count at h
  refine zMet (own := RX10) [(0, .ref (g.2.2.1 117)), (1, .int x1), (2, .int x2)] (by decide +kernel) rfl (Nat.le_of_ble_eq_true rfl) rfl (fun p e s m args below meth c C hr => ?_)
  refine zm_aload_n C dX10_count_0 rfl 0 rfl ?_
  refine zm_cv (zr_V (As := []) (rest := []) C (c_X10_knows l g U u W  h) wd_1352 wd_1354 wp_55 wd_11 wd_1355 hy_X10_knows rfl rfl ⟨by decide, by decide⟩ ⟨by decide, by decide⟩ (ci := 10) (by decide) (zCell_k kd_117) rfl rfl rfl rfl (Nat.le_of_ble_eq_true rfl) dX10_count_1) (fun M1 hq => ?_)
  obtain ⟨u_2, rfl, h⟩ := hq
  refine zm_iload_n C dX10_count_4 rfl 1 rfl ?_
  refine zm_iconst (v := 0) C dX10_count_5 (by decide) ?_
  refine zm_iconst (v := 2) C dX10_count_6 (by decide) ?_
  refine zm_ci (zr_S (As := [.int x1, .int (0 : Int32), .int (2 : Int32)]) (rest := []) C (c_X10_in l g (U, u_2, W) x1 (0 : Int32) (2 : Int32) h) wd_1224 wd_1225 wd_11 wd_1226 hy_X10_in rfl rfl ⟨by decide, by decide⟩ ⟨by decide, by decide⟩ rfl rfl (Nat.le_of_ble_eq_true rfl) dX10_count_7) (fun r_3 M1 hq => ?_)
  obtain ⟨rfl, h⟩ := hq
  refine zm_if_ne (tgt := 19) C dX10_count_10 (by decide) (fun hc_5 => ?_) (fun hc_5 => ?_)
  · have h := h.1 hc_5
    refine zm_iconst (v := 0) C dX10_count_19 (by decide) ?_
    refine zm_istore_n (lv' := [(3, .int (0 : Int32)), (0, .ref (g.2.2.1 117)), (1, .int x1), (2, .int x2)]) C dX10_count_20 rfl (by decide) rfl ?_
    refine zm_iconst (v := 0) C dX10_count_21 (by decide) ?_
    refine zm_istore (lv' := [(4, .int (0 : Int32)), (3, .int (0 : Int32)), (0, .ref (g.2.2.1 117)), (1, .int x1), (2, .int x2)]) C dX10_count_22 (by decide) rfl ?_
    obtain ⟨nn, h⟩ := h
    exact zm_sub [2, 3, 4, 1, 0] rfl (vl_X10_count_24 C hr  nn _ _ _ _ _ h)
  · have h := h.2 hc_5
    refine zm_aload_n C dX10_count_13 rfl 0 rfl ?_
    refine zm_iconst (v := 1) C dX10_count_14 (by decide) ?_
    refine zm_ci (zr_V (As := [.int (1 : Int32)]) (rest := []) C (c_X10_raises l g U u_2 W (1 : Int32) h) wd_1204 wd_1206 wp_34 wd_11 wd_1207 hy_X10_raises rfl rfl ⟨by decide, by decide⟩ ⟨by decide, by decide⟩ (ci := 10) (by decide) (zCell_k kd_117) rfl rfl rfl rfl (Nat.le_of_ble_eq_true rfl) dX10_count_15) (fun r_6 M1 hq => ?_)
    obtain ⟨u_7, rfl, h⟩ := hq
    exact zm_iret C hr dX10_count_18 ⟨_, rfl, h⟩
abbrev rm_X10_longest : Room := { frames := 6, cells := 0, slots := 0, locals := 135 }
def wb_X10_longest_54 (L8 : Int32 → Int32 → Int32 → MU → Prop) (Q : Int32 → MU → Prop) (x1 : Int32) (x2 : Int32) (x3 : Int32) (u : MU) : Prop := ∀ x3_1, x3_1 = x3 + (1 : Int32) → L8 x1 x2 x3_1 u
set_option maxHeartbeats 4000000 in
set_option maxRecDepth 100000 in
theorem vb_X10_longest_54 {p : Program} {l : Launch} {e : Env} {s : State} {m : MethodId} {args : Array Value} {below : List Frame} {meth : Method} {c : Code} {g : GE} {U : MU} {W : (Nat → Int64) × (Nat → UInt64)} {Q : Int32 → MU → Prop} (C : zCx p l s m args meth c g RX10 cX10_longest 4) (hr : meth.sig.returnType = (Option.some Jvm.ClassFile.FieldType.int)) {L8 : Int32 → Int32 → Int32 → MU → Prop} (hL8 : ∀ (x1 : Int32) (x2 : Int32) (x3 : Int32) (u : MU), L8 x1 x2 x3 u → WM p l e rm_X10_longest s m args below meth c g 4 0 0 (MQ below (zQi g (zPm U W Q)) args s 0 0 (zA g)) 8 [(0, .ref (g.2.2.1 117)), (1, .int x1), (2, .int x2), (3, .int x3)] [] (U, u, W)) (x1 : Int32) (x2 : Int32) (x3 : Int32) (u : MU) (h : wb_X10_longest_54 L8  Q x1 x2 x3 u) : WM p l e rm_X10_longest s m args below meth c g 4 0 0 (MQ below (zQi g (zPm U W Q)) args s 0 0 (zA g)) 54 [(0, .ref (g.2.2.1 117)), (1, .int x1), (2, .int x2), (3, .int x3)] [] (U, u, W) := by
  unfold wb_X10_longest_54 at h
  obtain ⟨x3_1, hx3_1⟩ : ∃ z, z = x3 + (1 : Int32) := ⟨_, rfl⟩
  have h := h x3_1 hx3_1
  refine zm_iinc (v := x3_1) (lv' := [(3, .int x3_1), (0, .ref (g.2.2.1 117)), (1, .int x1), (2, .int x2)]) C dX10_longest_54 3 rfl (by rw [hx3_1]; rfl) (by decide) rfl ?_
  refine zm_goto (tgt := 8) C dX10_longest_57 (by decide) ?_
  exact zm_sub [1, 2, 3, 0] rfl (hL8 _ _ _ _ h)
def wb_X10_longest_52 (L8 : Int32 → Int32 → Int32 → MU → Prop) (Q : Int32 → MU → Prop) (x1 : Int32) (x3 : Int32) (u : MU) : Prop := wb_X10_longest_54 L8  Q x1 x3 x3 u
set_option maxHeartbeats 4000000 in
set_option maxRecDepth 100000 in
theorem vb_X10_longest_52 {p : Program} {l : Launch} {e : Env} {s : State} {m : MethodId} {args : Array Value} {below : List Frame} {meth : Method} {c : Code} {g : GE} {U : MU} {W : (Nat → Int64) × (Nat → UInt64)} {Q : Int32 → MU → Prop} (C : zCx p l s m args meth c g RX10 cX10_longest 4) (hr : meth.sig.returnType = (Option.some Jvm.ClassFile.FieldType.int)) {L8 : Int32 → Int32 → Int32 → MU → Prop} (hL8 : ∀ (x1 : Int32) (x2 : Int32) (x3 : Int32) (u : MU), L8 x1 x2 x3 u → WM p l e rm_X10_longest s m args below meth c g 4 0 0 (MQ below (zQi g (zPm U W Q)) args s 0 0 (zA g)) 8 [(0, .ref (g.2.2.1 117)), (1, .int x1), (2, .int x2), (3, .int x3)] [] (U, u, W)) (x1 : Int32) (x3 : Int32) (u : MU) (h : wb_X10_longest_52 L8  Q x1 x3 u) : WM p l e rm_X10_longest s m args below meth c g 4 0 0 (MQ below (zQi g (zPm U W Q)) args s 0 0 (zA g)) 52 [(0, .ref (g.2.2.1 117)), (1, .int x1), (3, .int x3)] [] (U, u, W) := by
  unfold wb_X10_longest_52 at h
  refine zm_iload_n C dX10_longest_52 rfl 2 rfl ?_
  refine zm_istore_n (lv' := [(2, .int x3), (0, .ref (g.2.2.1 117)), (1, .int x1), (3, .int x3)]) C dX10_longest_53 rfl (by decide) rfl ?_
  exact zm_sub [1, 2, 0, 3] rfl (vb_X10_longest_54 C hr hL8 _ _ _ _ h)
def wl_X10_longest_8 (Q : Int32 → MU → Prop) : Nat → Int32 → Int32 → Int32 → MU → Prop
  | 0, _, _, _, _ => False
  | n + 1, x1, x2, x3, u => (((1296 : Int32) ≤ x3) → ((0 ≤ x2) → Q x2 u) ∧ ((¬ 0 ≤ x2) → w_X10_raises (1 : Int32) u (fun r_3 u_4 => Q r_3 u_4))) ∧ ((¬ (1296 : Int32) ≤ x3) → vp_in x3 1296 ∧ (((¬ (u 126 (x3).toNatClampNeg) = (1 : Int32)) → wb_X10_longest_54 (fun x1' x2' x3' u' => wl_X10_longest_8  Q n x1' x2' x3' u')  Q x1 x2 x3 u) ∧ (((u 126 (x3).toNatClampNeg) = (1 : Int32)) → w_X10_isGeese x3 (fun r_7 => ((¬ r_7 = x1) → wb_X10_longest_54 (fun x1' x2' x3' u' => wl_X10_longest_8  Q n x1' x2' x3' u')  Q x1 x2 x3 u) ∧ ((r_7 = x1) → ((x2 < 0) → wb_X10_longest_52 (fun x1' x2' x3' u' => wl_X10_longest_8  Q n x1' x2' x3' u')  Q x1 x3 u) ∧ ((¬ x2 < 0) → vp_in x3 1296 ∧ (vp_in x2 1296 ∧ ((((u 127 (x3).toNatClampNeg) ≤ (u 127 (x2).toNatClampNeg)) → wb_X10_longest_54 (fun x1' x2' x3' u' => wl_X10_longest_8  Q n x1' x2' x3' u')  Q x1 x2 x3 u) ∧ ((¬ (u 127 (x3).toNatClampNeg) ≤ (u 127 (x2).toNatClampNeg)) → wb_X10_longest_52 (fun x1' x2' x3' u' => wl_X10_longest_8  Q n x1' x2' x3' u')  Q x1 x3 u)))))))))
set_option maxHeartbeats 4000000 in
set_option maxRecDepth 100000 in
theorem vl_X10_longest_8 {p : Program} {l : Launch} {e : Env} {s : State} {m : MethodId} {args : Array Value} {below : List Frame} {meth : Method} {c : Code} {g : GE} {U : MU} {W : (Nat → Int64) × (Nat → UInt64)} {Q : Int32 → MU → Prop} (C : zCx p l s m args meth c g RX10 cX10_longest 4) (hr : meth.sig.returnType = (Option.some Jvm.ClassFile.FieldType.int)) : ∀ (n : Nat) (x1 : Int32) (x2 : Int32) (x3 : Int32) (u : MU) , wl_X10_longest_8   Q n x1 x2 x3 u → WM p l e rm_X10_longest s m args below meth c g 4 0 0 (MQ below (zQi g (zPm U W Q)) args s 0 0 (zA g)) 8 [(0, .ref (g.2.2.1 117)), (1, .int x1), (2, .int x2), (3, .int x3)] [] (U, u, W) := by
  intro n
  induction n with
  | zero => intro _ _ _ _ h; exact h.elim
  | succ n ih =>
    intro x1 x2 x3 u h
    unfold wl_X10_longest_8 at h
    refine zm_iload_n C dX10_longest_8 rfl 3 rfl ?_
    refine zm_sipush (v := 1296) C dX10_longest_9 (by decide) ?_
    refine zm_icmp_ge (tgt := 60) C dX10_longest_12 (by decide) (fun hc_1 => ?_) (fun hc_1 => ?_)
    · have h := h.1 hc_1
      refine zm_iload_n C dX10_longest_60 rfl 2 rfl ?_
      refine zm_if_ge (tgt := 72) C dX10_longest_61 (by decide) (fun hc_2 => ?_) (fun hc_2 => ?_)
      · have h := h.1 hc_2
        refine zm_iload_n C dX10_longest_72 rfl 2 rfl ?_
        exact zm_iret C hr dX10_longest_73 ⟨_, rfl, h⟩
      · have h := h.2 hc_2
        refine zm_aload_n C dX10_longest_64 rfl 0 rfl ?_
        refine zm_iconst (v := 1) C dX10_longest_65 (by decide) ?_
        refine zm_ci (zr_V (As := [.int (1 : Int32)]) (rest := []) C (c_X10_raises l g U u W (1 : Int32) h) wd_1204 wd_1206 wp_34 wd_11 wd_1207 hy_X10_raises rfl rfl ⟨by decide, by decide⟩ ⟨by decide, by decide⟩ (ci := 10) (by decide) (zCell_k kd_117) rfl rfl rfl rfl (Nat.le_of_ble_eq_true rfl) dX10_longest_66) (fun r_3 M1 hq => ?_)
        obtain ⟨u_4, rfl, h⟩ := hq
        refine zm_goto (tgt := 73) C dX10_longest_69 (by decide) ?_
        exact zm_iret C hr dX10_longest_73 ⟨_, rfl, h⟩
    · have h := h.2 hc_1
      refine zm_aload_n C dX10_longest_15 rfl 0 rfl ?_
      refine gf_RX10_39 (k1 := 126) C kd_117 rfl dX10_longest_16 ?_
      refine zm_iload_n C dX10_longest_19 rfl 3 rfl ?_
      obtain ⟨hg_5, h⟩ := h
      refine zq_ld_m C kd_126 ln_126 hg_5 dX10_longest_20 ?_
      refine zm_iconst (v := 1) C dX10_longest_21 (by decide) ?_
      refine zm_icmp_ne (tgt := 54) C dX10_longest_22 (by decide) (fun hc_6 => ?_) (fun hc_6 => ?_)
      · have h := h.1 hc_6
        exact zm_sub [0, 1, 2, 3] rfl (vb_X10_longest_54 C hr ih _ _ _ _ h)
      · have h := h.2 hc_6
        refine zm_iload_n C dX10_longest_25 rfl 3 rfl ?_
        refine zm_ci (zr_S (As := [.int x3]) (rest := []) C (c_X10_isGeese l g (U, u, W) x3 h) wd_1293 wd_1294 wd_11 wd_1295 hy_X10_isGeese rfl rfl ⟨by decide, by decide⟩ ⟨by decide, by decide⟩ rfl rfl (Nat.le_of_ble_eq_true rfl) dX10_longest_26) (fun r_7 M1 hq => ?_)
        obtain ⟨rfl, h⟩ := hq
        refine zm_iload_n C dX10_longest_29 rfl 1 rfl ?_
        refine zm_icmp_ne (tgt := 54) C dX10_longest_30 (by decide) (fun hc_9 => ?_) (fun hc_9 => ?_)
        · have h := h.1 hc_9
          exact zm_sub [0, 1, 2, 3] rfl (vb_X10_longest_54 C hr ih _ _ _ _ h)
        · have h := h.2 hc_9
          refine zm_iload_n C dX10_longest_33 rfl 2 rfl ?_
          refine zm_if_lt (tgt := 52) C dX10_longest_34 (by decide) (fun hc_10 => ?_) (fun hc_10 => ?_)
          · have h := h.1 hc_10
            exact zm_sub [0, 1, 3] rfl (vb_X10_longest_52 C hr ih _ _ _ h)
          · have h := h.2 hc_10
            refine zm_aload_n C dX10_longest_37 rfl 0 rfl ?_
            refine gf_RX10_42 (k1 := 127) C kd_117 rfl dX10_longest_38 ?_
            refine zm_iload_n C dX10_longest_41 rfl 3 rfl ?_
            obtain ⟨hg_11, h⟩ := h
            refine zq_ld_m C kd_127 ln_127 hg_11 dX10_longest_42 ?_
            refine zm_aload_n C dX10_longest_43 rfl 0 rfl ?_
            refine gf_RX10_42 (k1 := 127) C kd_117 rfl dX10_longest_44 ?_
            refine zm_iload_n C dX10_longest_47 rfl 2 rfl ?_
            obtain ⟨hg_12, h⟩ := h
            refine zq_ld_m C kd_127 ln_127 hg_12 dX10_longest_48 ?_
            refine zm_icmp_le (tgt := 54) C dX10_longest_49 (by decide) (fun hc_13 => ?_) (fun hc_13 => ?_)
            · have h := h.1 hc_13
              exact zm_sub [0, 1, 2, 3] rfl (vb_X10_longest_54 C hr ih _ _ _ _ h)
            · have h := h.2 hc_13
              exact zm_sub [0, 1, 3] rfl (vb_X10_longest_52 C hr ih _ _ _ h)
def w_X10_longest (x1 : Int32) (u : MU) (Q : Int32 → MU → Prop) : Prop := w_X10_knows  u (fun u_2 => ∃ nn, wl_X10_longest_8   Q nn x1 (-1 : Int32) (0 : Int32) u_2)
set_option maxHeartbeats 4000000 in
set_option maxRecDepth 100000 in
theorem c_X10_longest (l : Launch) (g : GE) (U : MU) (u : MU) (W : (Nat → Int64) × (Nat → UInt64)) (x1 : Int32) {Q : Int32 → MU → Prop} (h : w_X10_longest x1 u Q) : Met l yX10_longest (.code yX10_longest cX10_longest 4 (Option.some Jvm.ClassFile.FieldType.int) :: TB) rm_X10_longest (zPc g (U, u, W) [.ref (g.2.2.1 117), .int x1]) (zQi g (zPm U W Q)) 0 0 (zA g) := by
  unfold w_X10_longest at h
  refine zMet (own := RX10) [(0, .ref (g.2.2.1 117)), (1, .int x1)] (by decide +kernel) rfl (Nat.le_of_ble_eq_true rfl) rfl (fun p e s m args below meth c C hr => ?_)
  refine zm_aload_n C dX10_longest_0 rfl 0 rfl ?_
  refine zm_cv (zr_V (As := []) (rest := []) C (c_X10_knows l g U u W  h) wd_1352 wd_1354 wp_55 wd_11 wd_1355 hy_X10_knows rfl rfl ⟨by decide, by decide⟩ ⟨by decide, by decide⟩ (ci := 10) (by decide) (zCell_k kd_117) rfl rfl rfl rfl (Nat.le_of_ble_eq_true rfl) dX10_longest_1) (fun M1 hq => ?_)
  obtain ⟨u_2, rfl, h⟩ := hq
  refine zm_iconst (v := -1) C dX10_longest_4 (by decide) ?_
  refine zm_istore_n (lv' := [(2, .int (-1 : Int32)), (0, .ref (g.2.2.1 117)), (1, .int x1)]) C dX10_longest_5 rfl (by decide) rfl ?_
  refine zm_iconst (v := 0) C dX10_longest_6 (by decide) ?_
  refine zm_istore_n (lv' := [(3, .int (0 : Int32)), (2, .int (-1 : Int32)), (0, .ref (g.2.2.1 117)), (1, .int x1)]) C dX10_longest_7 rfl (by decide) rfl ?_
  obtain ⟨nn, h⟩ := h
  exact zm_sub [2, 3, 1, 0] rfl (vl_X10_longest_8 C hr  nn _ _ _ _ h)
abbrev rm_X10_wonIn : Room := { frames := 6, cells := 0, slots := 0, locals := 135 }
def wb_X10_wonIn_47 (L18 : Int32 → Int32 → Int32 → MU → Prop) (Q : Int32 → MU → Prop) (x1 : Int32) (x2 : Int32) (x3 : Int32) (u : MU) : Prop := ∀ x3_1, x3_1 = x3 + (1 : Int32) → L18 x1 x2 x3_1 u
set_option maxHeartbeats 4000000 in
set_option maxRecDepth 100000 in
theorem vb_X10_wonIn_47 {p : Program} {l : Launch} {e : Env} {s : State} {m : MethodId} {args : Array Value} {below : List Frame} {meth : Method} {c : Code} {g : GE} {U : MU} {W : (Nat → Int64) × (Nat → UInt64)} {Q : Int32 → MU → Prop} (C : zCx p l s m args meth c g RX10 cX10_wonIn 4) (hr : meth.sig.returnType = (Option.some Jvm.ClassFile.FieldType.int)) {L18 : Int32 → Int32 → Int32 → MU → Prop} (hL18 : ∀ (x1 : Int32) (x2 : Int32) (x3 : Int32) (u : MU), L18 x1 x2 x3 u → WM p l e rm_X10_wonIn s m args below meth c g 4 0 0 (MQ below (zQi g (zPm U W Q)) args s 0 0 (zA g)) 18 [(0, .ref (g.2.2.1 117)), (1, .int x1), (2, .int x2), (3, .int x3)] [] (U, u, W)) (x1 : Int32) (x2 : Int32) (x3 : Int32) (u : MU) (h : wb_X10_wonIn_47 L18  Q x1 x2 x3 u) : WM p l e rm_X10_wonIn s m args below meth c g 4 0 0 (MQ below (zQi g (zPm U W Q)) args s 0 0 (zA g)) 47 [(0, .ref (g.2.2.1 117)), (1, .int x1), (2, .int x2), (3, .int x3)] [] (U, u, W) := by
  unfold wb_X10_wonIn_47 at h
  obtain ⟨x3_1, hx3_1⟩ : ∃ z, z = x3 + (1 : Int32) := ⟨_, rfl⟩
  have h := h x3_1 hx3_1
  refine zm_iinc (v := x3_1) (lv' := [(3, .int x3_1), (0, .ref (g.2.2.1 117)), (1, .int x1), (2, .int x2)]) C dX10_wonIn_47 3 rfl (by rw [hx3_1]; rfl) (by decide) rfl ?_
  refine zm_goto (tgt := 18) C dX10_wonIn_50 (by decide) ?_
  exact zm_sub [1, 2, 3, 0] rfl (hL18 _ _ _ _ h)
def wl_X10_wonIn_18 (Q : Int32 → MU → Prop) : Nat → Int32 → Int32 → Int32 → MU → Prop
  | 0, _, _, _, _ => False
  | n + 1, x1, x2, x3, u => (((1296 : Int32) ≤ x3) → Q x2 u) ∧ ((¬ (1296 : Int32) ≤ x3) → vp_in x3 1296 ∧ ((((u 126 (x3).toNatClampNeg) = 0) → wb_X10_wonIn_47 (fun x1' x2' x3' u' => wl_X10_wonIn_18  Q n x1' x2' x3' u')  Q x1 x2 x3 u) ∧ ((¬ (u 126 (x3).toNatClampNeg) = 0) → vp_in x3 1296 ∧ (((¬ (u 127 (x3).toNatClampNeg) = x1) → wb_X10_wonIn_47 (fun x1' x2' x3' u' => wl_X10_wonIn_18  Q n x1' x2' x3' u')  Q x1 x2 x3 u) ∧ (((u 127 (x3).toNatClampNeg) = x1) → ∀ x2_6, x2_6 = x2 + (1 : Int32) → wb_X10_wonIn_47 (fun x1' x2' x3' u' => wl_X10_wonIn_18  Q n x1' x2' x3' u')  Q x1 x2_6 x3 u)))))
set_option maxHeartbeats 4000000 in
set_option maxRecDepth 100000 in
theorem vl_X10_wonIn_18 {p : Program} {l : Launch} {e : Env} {s : State} {m : MethodId} {args : Array Value} {below : List Frame} {meth : Method} {c : Code} {g : GE} {U : MU} {W : (Nat → Int64) × (Nat → UInt64)} {Q : Int32 → MU → Prop} (C : zCx p l s m args meth c g RX10 cX10_wonIn 4) (hr : meth.sig.returnType = (Option.some Jvm.ClassFile.FieldType.int)) : ∀ (n : Nat) (x1 : Int32) (x2 : Int32) (x3 : Int32) (u : MU) , wl_X10_wonIn_18   Q n x1 x2 x3 u → WM p l e rm_X10_wonIn s m args below meth c g 4 0 0 (MQ below (zQi g (zPm U W Q)) args s 0 0 (zA g)) 18 [(0, .ref (g.2.2.1 117)), (1, .int x1), (2, .int x2), (3, .int x3)] [] (U, u, W) := by
  intro n
  induction n with
  | zero => intro _ _ _ _ h; exact h.elim
  | succ n ih =>
    intro x1 x2 x3 u h
    unfold wl_X10_wonIn_18 at h
    refine zm_iload_n C dX10_wonIn_18 rfl 3 rfl ?_
    refine zm_sipush (v := 1296) C dX10_wonIn_19 (by decide) ?_
    refine zm_icmp_ge (tgt := 53) C dX10_wonIn_22 (by decide) (fun hc_1 => ?_) (fun hc_1 => ?_)
    · have h := h.1 hc_1
      refine zm_iload_n C dX10_wonIn_53 rfl 2 rfl ?_
      exact zm_iret C hr dX10_wonIn_54 ⟨_, rfl, h⟩
    · have h := h.2 hc_1
      refine zm_aload_n C dX10_wonIn_25 rfl 0 rfl ?_
      refine gf_RX10_39 (k1 := 126) C kd_117 rfl dX10_wonIn_26 ?_
      refine zm_iload_n C dX10_wonIn_29 rfl 3 rfl ?_
      obtain ⟨hg_2, h⟩ := h
      refine zq_ld_m C kd_126 ln_126 hg_2 dX10_wonIn_30 ?_
      refine zm_if_eq (tgt := 47) C dX10_wonIn_31 (by decide) (fun hc_3 => ?_) (fun hc_3 => ?_)
      · have h := h.1 hc_3
        exact zm_sub [0, 1, 2, 3] rfl (vb_X10_wonIn_47 C hr ih _ _ _ _ h)
      · have h := h.2 hc_3
        refine zm_aload_n C dX10_wonIn_34 rfl 0 rfl ?_
        refine gf_RX10_42 (k1 := 127) C kd_117 rfl dX10_wonIn_35 ?_
        refine zm_iload_n C dX10_wonIn_38 rfl 3 rfl ?_
        obtain ⟨hg_4, h⟩ := h
        refine zq_ld_m C kd_127 ln_127 hg_4 dX10_wonIn_39 ?_
        refine zm_iload_n C dX10_wonIn_40 rfl 1 rfl ?_
        refine zm_icmp_ne (tgt := 47) C dX10_wonIn_41 (by decide) (fun hc_5 => ?_) (fun hc_5 => ?_)
        · have h := h.1 hc_5
          exact zm_sub [0, 1, 2, 3] rfl (vb_X10_wonIn_47 C hr ih _ _ _ _ h)
        · have h := h.2 hc_5
          obtain ⟨x2_6, hx2_6⟩ : ∃ z, z = x2 + (1 : Int32) := ⟨_, rfl⟩
          have h := h x2_6 hx2_6
          refine zm_iinc (v := x2_6) (lv' := [(2, .int x2_6), (0, .ref (g.2.2.1 117)), (1, .int x1), (3, .int x3)]) C dX10_wonIn_44 2 rfl (by rw [hx2_6]; rfl) (by decide) rfl ?_
          exact zm_sub [1, 2, 0, 3] rfl (vb_X10_wonIn_47 C hr ih _ _ _ _ h)
def w_X10_wonIn (x1 : Int32) (u : MU) (Q : Int32 → MU → Prop) : Prop := w_X10_knows  u (fun u_2 => ((0 ≤ x1) → ∃ nn, wl_X10_wonIn_18   Q nn x1 (0 : Int32) (0 : Int32) u_2) ∧ ((¬ 0 ≤ x1) → w_X10_raises (1 : Int32) u_2 (fun r_4 u_5 => Q r_4 u_5)))
set_option maxHeartbeats 4000000 in
set_option maxRecDepth 100000 in
theorem c_X10_wonIn (l : Launch) (g : GE) (U : MU) (u : MU) (W : (Nat → Int64) × (Nat → UInt64)) (x1 : Int32) {Q : Int32 → MU → Prop} (h : w_X10_wonIn x1 u Q) : Met l yX10_wonIn (.code yX10_wonIn cX10_wonIn 4 (Option.some Jvm.ClassFile.FieldType.int) :: TB) rm_X10_wonIn (zPc g (U, u, W) [.ref (g.2.2.1 117), .int x1]) (zQi g (zPm U W Q)) 0 0 (zA g) := by
  unfold w_X10_wonIn at h
  refine zMet (own := RX10) [(0, .ref (g.2.2.1 117)), (1, .int x1)] (by decide +kernel) rfl (Nat.le_of_ble_eq_true rfl) rfl (fun p e s m args below meth c C hr => ?_)
  refine zm_aload_n C dX10_wonIn_0 rfl 0 rfl ?_
  refine zm_cv (zr_V (As := []) (rest := []) C (c_X10_knows l g U u W  h) wd_1352 wd_1354 wp_55 wd_11 wd_1355 hy_X10_knows rfl rfl ⟨by decide, by decide⟩ ⟨by decide, by decide⟩ (ci := 10) (by decide) (zCell_k kd_117) rfl rfl rfl rfl (Nat.le_of_ble_eq_true rfl) dX10_wonIn_1) (fun M1 hq => ?_)
  obtain ⟨u_2, rfl, h⟩ := hq
  refine zm_iload_n C dX10_wonIn_4 rfl 1 rfl ?_
  refine zm_if_ge (tgt := 14) C dX10_wonIn_5 (by decide) (fun hc_3 => ?_) (fun hc_3 => ?_)
  · have h := h.1 hc_3
    refine zm_iconst (v := 0) C dX10_wonIn_14 (by decide) ?_
    refine zm_istore_n (lv' := [(2, .int (0 : Int32)), (0, .ref (g.2.2.1 117)), (1, .int x1)]) C dX10_wonIn_15 rfl (by decide) rfl ?_
    refine zm_iconst (v := 0) C dX10_wonIn_16 (by decide) ?_
    refine zm_istore_n (lv' := [(3, .int (0 : Int32)), (2, .int (0 : Int32)), (0, .ref (g.2.2.1 117)), (1, .int x1)]) C dX10_wonIn_17 rfl (by decide) rfl ?_
    obtain ⟨nn, h⟩ := h
    exact zm_sub [2, 3, 1, 0] rfl (vl_X10_wonIn_18 C hr  nn _ _ _ _ h)
  · have h := h.2 hc_3
    refine zm_aload_n C dX10_wonIn_8 rfl 0 rfl ?_
    refine zm_iconst (v := 1) C dX10_wonIn_9 (by decide) ?_
    refine zm_ci (zr_V (As := [.int (1 : Int32)]) (rest := []) C (c_X10_raises l g U u_2 W (1 : Int32) h) wd_1204 wd_1206 wp_34 wd_11 wd_1207 hy_X10_raises rfl rfl ⟨by decide, by decide⟩ ⟨by decide, by decide⟩ (ci := 10) (by decide) (zCell_k kd_117) rfl rfl rfl rfl (Nat.le_of_ble_eq_true rfl) dX10_wonIn_10) (fun r_4 M1 hq => ?_)
    obtain ⟨u_5, rfl, h⟩ := hq
    exact zm_iret C hr dX10_wonIn_13 ⟨_, rfl, h⟩
abbrev rm_X10_wouldChange : Room := { frames := 6, cells := 0, slots := 0, locals := 135 }
def wb_X10_wouldChange_20 (Q : Int32 → MU → Prop) (u : MU) : Prop := w_X10_raises (1 : Int32) u (fun r_1 u_2 => Q r_1 u_2)
set_option maxHeartbeats 4000000 in
set_option maxRecDepth 100000 in
theorem vb_X10_wouldChange_20 {p : Program} {l : Launch} {e : Env} {s : State} {m : MethodId} {args : Array Value} {below : List Frame} {meth : Method} {c : Code} {g : GE} {U : MU} {W : (Nat → Int64) × (Nat → UInt64)} {Q : Int32 → MU → Prop} (C : zCx p l s m args meth c g RX10 cX10_wouldChange 5) (hr : meth.sig.returnType = (Option.some Jvm.ClassFile.FieldType.int)) (u : MU) (h : wb_X10_wouldChange_20   Q  u) : WM p l e rm_X10_wouldChange s m args below meth c g 5 0 0 (MQ below (zQi g (zPm U W Q)) args s 0 0 (zA g)) 20 [(0, .ref (g.2.2.1 117))] [] (U, u, W) := by
  unfold wb_X10_wouldChange_20 at h
  refine zm_aload_n C dX10_wouldChange_20 rfl 0 rfl ?_
  refine zm_iconst (v := 1) C dX10_wouldChange_21 (by decide) ?_
  refine zm_ci (zr_V (As := [.int (1 : Int32)]) (rest := []) C (c_X10_raises l g U u W (1 : Int32) h) wd_1204 wd_1206 wp_34 wd_11 wd_1207 hy_X10_raises rfl rfl ⟨by decide, by decide⟩ ⟨by decide, by decide⟩ (ci := 10) (by decide) (zCell_k kd_117) rfl rfl rfl rfl (Nat.le_of_ble_eq_true rfl) dX10_wouldChange_22) (fun r_1 M1 hq => ?_)
  obtain ⟨u_2, rfl, h⟩ := hq
  exact zm_iret C hr dX10_wouldChange_25 ⟨_, rfl, h⟩
def wb_X10_wouldChange_125 (L97 : Int32 → Int32 → MU → Prop) (Q : Int32 → MU → Prop) (x3 : Int32) (x4 : Int32) (u : MU) : Prop := ∀ x4_1, x4_1 = x4 + (1 : Int32) → L97 x3 x4_1 u
set_option maxHeartbeats 4000000 in
set_option maxRecDepth 100000 in
theorem vb_X10_wouldChange_125 {p : Program} {l : Launch} {e : Env} {s : State} {m : MethodId} {args : Array Value} {below : List Frame} {meth : Method} {c : Code} {g : GE} {U : MU} {W : (Nat → Int64) × (Nat → UInt64)} {Q : Int32 → MU → Prop} (C : zCx p l s m args meth c g RX10 cX10_wouldChange 5) (hr : meth.sig.returnType = (Option.some Jvm.ClassFile.FieldType.int)) {L97 : Int32 → Int32 → MU → Prop} (hL97 : ∀ (x3 : Int32) (x4 : Int32) (u : MU), L97 x3 x4 u → WM p l e rm_X10_wouldChange s m args below meth c g 5 0 0 (MQ below (zQi g (zPm U W Q)) args s 0 0 (zA g)) 97 [(0, .ref (g.2.2.1 117)), (3, .int x3), (4, .int x4)] [] (U, u, W)) (x3 : Int32) (x4 : Int32) (u : MU) (h : wb_X10_wouldChange_125 L97  Q x3 x4 u) : WM p l e rm_X10_wouldChange s m args below meth c g 5 0 0 (MQ below (zQi g (zPm U W Q)) args s 0 0 (zA g)) 125 [(0, .ref (g.2.2.1 117)), (3, .int x3), (4, .int x4)] [] (U, u, W) := by
  unfold wb_X10_wouldChange_125 at h
  obtain ⟨x4_1, hx4_1⟩ : ∃ z, z = x4 + (1 : Int32) := ⟨_, rfl⟩
  have h := h x4_1 hx4_1
  refine zm_iinc (v := x4_1) (lv' := [(4, .int x4_1), (0, .ref (g.2.2.1 117)), (3, .int x3)]) C dX10_wouldChange_125 2 rfl (by rw [hx4_1]; rfl) (by decide) rfl ?_
  refine zm_goto (tgt := 97) C dX10_wouldChange_128 (by decide) ?_
  exact zm_sub [1, 2, 0] rfl (hL97 _ _ _ h)
def wl_X10_wouldChange_97 (Q : Int32 → MU → Prop) : Nat → Int32 → Int32 → MU → Prop
  | 0, _, _, _ => False
  | n + 1, x3, x4, u => (((1296 : Int32) ≤ x4) → (∀ u_2, u_2 = u2 u 117 22 (0 : Int32) → Q x3 u_2)) ∧ ((¬ (1296 : Int32) ≤ x4) → vp_in x4 1296 ∧ (vp_in x4 1296 ∧ ((((u 128 (x4).toNatClampNeg) = (u 126 (x4).toNatClampNeg)) → wb_X10_wouldChange_125 (fun x3' x4' u' => wl_X10_wouldChange_97  Q n x3' x4' u')  Q x3 x4 u) ∧ ((¬ (u 128 (x4).toNatClampNeg) = (u 126 (x4).toNatClampNeg)) → ∀ x3_6, x3_6 = x3 + (1 : Int32) → wb_X10_wouldChange_125 (fun x3' x4' u' => wl_X10_wouldChange_97  Q n x3' x4' u')  Q x3_6 x4 u))))
set_option maxHeartbeats 4000000 in
set_option maxRecDepth 100000 in
theorem vl_X10_wouldChange_97 {p : Program} {l : Launch} {e : Env} {s : State} {m : MethodId} {args : Array Value} {below : List Frame} {meth : Method} {c : Code} {g : GE} {U : MU} {W : (Nat → Int64) × (Nat → UInt64)} {Q : Int32 → MU → Prop} (C : zCx p l s m args meth c g RX10 cX10_wouldChange 5) (hr : meth.sig.returnType = (Option.some Jvm.ClassFile.FieldType.int)) : ∀ (n : Nat) (x3 : Int32) (x4 : Int32) (u : MU) , wl_X10_wouldChange_97   Q n x3 x4 u → WM p l e rm_X10_wouldChange s m args below meth c g 5 0 0 (MQ below (zQi g (zPm U W Q)) args s 0 0 (zA g)) 97 [(0, .ref (g.2.2.1 117)), (3, .int x3), (4, .int x4)] [] (U, u, W) := by
  intro n
  induction n with
  | zero => intro _ _ _ h; exact h.elim
  | succ n ih =>
    intro x3 x4 u h
    unfold wl_X10_wouldChange_97 at h
    refine zm_iload C dX10_wouldChange_97 2 rfl ?_
    refine zm_sipush (v := 1296) C dX10_wouldChange_99 (by decide) ?_
    refine zm_icmp_ge (tgt := 131) C dX10_wouldChange_102 (by decide) (fun hc_1 => ?_) (fun hc_1 => ?_)
    · have h := h.1 hc_1
      refine zm_aload_n C dX10_wouldChange_131 rfl 0 rfl ?_
      refine zm_iconst (v := 0) C dX10_wouldChange_132 (by decide) ?_
      refine pf_RX10_57 C kd_117 (by decide) (by decide) dX10_wouldChange_133 (fun u_2 hu_2 => ?_)
      have h := h u_2 hu_2
      refine zm_iload_n C dX10_wouldChange_136 rfl 1 rfl ?_
      exact zm_iret C hr dX10_wouldChange_137 ⟨_, rfl, h⟩
    · have h := h.2 hc_1
      refine zm_aload_n C dX10_wouldChange_105 rfl 0 rfl ?_
      refine gf_RX10_45 (k1 := 128) C kd_117 rfl dX10_wouldChange_106 ?_
      refine zm_iload C dX10_wouldChange_109 2 rfl ?_
      obtain ⟨hg_3, h⟩ := h
      refine zq_ld_m C kd_128 ln_128 hg_3 dX10_wouldChange_111 ?_
      refine zm_aload_n C dX10_wouldChange_112 rfl 0 rfl ?_
      refine gf_RX10_39 (k1 := 126) C kd_117 rfl dX10_wouldChange_113 ?_
      refine zm_iload C dX10_wouldChange_116 2 rfl ?_
      obtain ⟨hg_4, h⟩ := h
      refine zq_ld_m C kd_126 ln_126 hg_4 dX10_wouldChange_118 ?_
      refine zm_icmp_eq (tgt := 125) C dX10_wouldChange_119 (by decide) (fun hc_5 => ?_) (fun hc_5 => ?_)
      · have h := h.1 hc_5
        exact zm_sub [0, 1, 2] rfl (vb_X10_wouldChange_125 C hr ih _ _ _ h)
      · have h := h.2 hc_5
        obtain ⟨x3_6, hx3_6⟩ : ∃ z, z = x3 + (1 : Int32) := ⟨_, rfl⟩
        have h := h x3_6 hx3_6
        refine zm_iinc (v := x3_6) (lv' := [(3, .int x3_6), (0, .ref (g.2.2.1 117)), (4, .int x4)]) C dX10_wouldChange_122 1 rfl (by rw [hx3_6]; rfl) (by decide) rfl ?_
        exact zm_sub [1, 0, 2] rfl (vb_X10_wouldChange_125 C hr ih _ _ _ h)
def wl_X10_wouldChange_39 (Q : Int32 → MU → Prop) : Nat → Int32 → Int32 → Int32 → MU → Prop
  | 0, _, _, _, _ => False
  | n + 1, x1, x2, x3, u => (((1296 : Int32) ≤ x3) → vp_in x1 8 ∧ (vp_in x1 8 ∧ (∀ u_4, u_4 = u2 u 125 (x1).toNatClampNeg ((u 125 (x1).toNatClampNeg) ^^^ ((1 : Int32) <<< (x2 &&& 31))) → vp_in x2 8 ∧ (vp_in x2 8 ∧ (∀ u_7, u_7 = u2 u_4 125 (x2).toNatClampNeg ((u_4 125 (x2).toNatClampNeg) ^^^ ((1 : Int32) <<< (x1 &&& 31))) → w_X10_looks  u_7 (fun u_9 => ∃ nn, wl_X10_wouldChange_97   Q nn (0 : Int32) (0 : Int32) u_9)))))) ∧ ((¬ (1296 : Int32) ≤ x3) → vp_in x3 1296 ∧ (vp_in x3 1296 ∧ (∀ u_12, u_12 = u2 u 128 (x3).toNatClampNeg (u 126 (x3).toNatClampNeg) → ∀ x3_13, x3_13 = x3 + (1 : Int32) → wl_X10_wouldChange_39   Q n x1 x2 x3_13 u_12)))
set_option maxHeartbeats 4000000 in
set_option maxRecDepth 100000 in
theorem vl_X10_wouldChange_39 {p : Program} {l : Launch} {e : Env} {s : State} {m : MethodId} {args : Array Value} {below : List Frame} {meth : Method} {c : Code} {g : GE} {U : MU} {W : (Nat → Int64) × (Nat → UInt64)} {Q : Int32 → MU → Prop} (C : zCx p l s m args meth c g RX10 cX10_wouldChange 5) (hr : meth.sig.returnType = (Option.some Jvm.ClassFile.FieldType.int)) : ∀ (n : Nat) (x1 : Int32) (x2 : Int32) (x3 : Int32) (u : MU) , wl_X10_wouldChange_39   Q n x1 x2 x3 u → WM p l e rm_X10_wouldChange s m args below meth c g 5 0 0 (MQ below (zQi g (zPm U W Q)) args s 0 0 (zA g)) 39 [(0, .ref (g.2.2.1 117)), (1, .int x1), (2, .int x2), (3, .int x3)] [] (U, u, W) := by
  intro n
  induction n with
  | zero => intro _ _ _ _ h; exact h.elim
  | succ n ih =>
    intro x1 x2 x3 u h
    unfold wl_X10_wouldChange_39 at h
    refine zm_iload_n C dX10_wouldChange_39 rfl 3 rfl ?_
    refine zm_sipush (v := 1296) C dX10_wouldChange_40 (by decide) ?_
    refine zm_icmp_ge (tgt := 64) C dX10_wouldChange_43 (by decide) (fun hc_1 => ?_) (fun hc_1 => ?_)
    · have h := h.1 hc_1
      refine zm_aload_n C dX10_wouldChange_64 rfl 0 rfl ?_
      refine gf_RX10_36 (k1 := 125) C kd_117 rfl dX10_wouldChange_65 ?_
      refine zm_iload_n C dX10_wouldChange_68 rfl 1 rfl ?_
      refine zm_dup2_11 C dX10_wouldChange_69 rfl rfl ?_
      obtain ⟨hg_2, h⟩ := h
      refine zq_ld_m C kd_125 ln_125 hg_2 dX10_wouldChange_70 ?_
      refine zm_iconst (v := 1) C dX10_wouldChange_71 (by decide) ?_
      refine zm_iload_n C dX10_wouldChange_72 rfl 2 rfl ?_
      refine zm_ishl C dX10_wouldChange_73 ?_
      refine zm_ixor C dX10_wouldChange_74 ?_
      obtain ⟨hg_3, h⟩ := h
      refine zq_st_m C kd_125 ln_125 hg_3 dX10_wouldChange_75 (fun u_4 hu_4 => ?_)
      have h := h u_4 hu_4
      refine zm_aload_n C dX10_wouldChange_76 rfl 0 rfl ?_
      refine gf_RX10_36 (k1 := 125) C kd_117 rfl dX10_wouldChange_77 ?_
      refine zm_iload_n C dX10_wouldChange_80 rfl 2 rfl ?_
      refine zm_dup2_11 C dX10_wouldChange_81 rfl rfl ?_
      obtain ⟨hg_5, h⟩ := h
      refine zq_ld_m C kd_125 ln_125 hg_5 dX10_wouldChange_82 ?_
      refine zm_iconst (v := 1) C dX10_wouldChange_83 (by decide) ?_
      refine zm_iload_n C dX10_wouldChange_84 rfl 1 rfl ?_
      refine zm_ishl C dX10_wouldChange_85 ?_
      refine zm_ixor C dX10_wouldChange_86 ?_
      obtain ⟨hg_6, h⟩ := h
      refine zq_st_m C kd_125 ln_125 hg_6 dX10_wouldChange_87 (fun u_7 hu_7 => ?_)
      have h := h u_7 hu_7
      refine zm_aload_n C dX10_wouldChange_88 rfl 0 rfl ?_
      refine zm_cv (zr_V (As := []) (rest := []) C (c_X10_looks l g U u_7 W  h) wd_1328 wd_1330 wp_52 wd_11 wd_1331 hy_X10_looks rfl rfl ⟨by decide, by decide⟩ ⟨by decide, by decide⟩ (ci := 10) (by decide) (zCell_k kd_117) rfl rfl rfl rfl (Nat.le_of_ble_eq_true rfl) dX10_wouldChange_89) (fun M1 hq => ?_)
      obtain ⟨u_9, rfl, h⟩ := hq
      refine zm_iconst (v := 0) C dX10_wouldChange_92 (by decide) ?_
      refine zm_istore_n (lv' := [(3, .int (0 : Int32)), (0, .ref (g.2.2.1 117)), (1, .int x1), (2, .int x2)]) C dX10_wouldChange_93 rfl (by decide) rfl ?_
      refine zm_iconst (v := 0) C dX10_wouldChange_94 (by decide) ?_
      refine zm_istore (lv' := [(4, .int (0 : Int32)), (3, .int (0 : Int32)), (0, .ref (g.2.2.1 117)), (1, .int x1), (2, .int x2)]) C dX10_wouldChange_95 (by decide) rfl ?_
      obtain ⟨nn, h⟩ := h
      exact zm_sub [2, 1, 0] rfl (vl_X10_wouldChange_97 C hr  nn _ _ _ h)
    · have h := h.2 hc_1
      refine zm_aload_n C dX10_wouldChange_46 rfl 0 rfl ?_
      refine gf_RX10_45 (k1 := 128) C kd_117 rfl dX10_wouldChange_47 ?_
      refine zm_iload_n C dX10_wouldChange_50 rfl 3 rfl ?_
      refine zm_aload_n C dX10_wouldChange_51 rfl 0 rfl ?_
      refine gf_RX10_39 (k1 := 126) C kd_117 rfl dX10_wouldChange_52 ?_
      refine zm_iload_n C dX10_wouldChange_55 rfl 3 rfl ?_
      obtain ⟨hg_10, h⟩ := h
      refine zq_ld_m C kd_126 ln_126 hg_10 dX10_wouldChange_56 ?_
      obtain ⟨hg_11, h⟩ := h
      refine zq_st_m C kd_128 ln_128 hg_11 dX10_wouldChange_57 (fun u_12 hu_12 => ?_)
      have h := h u_12 hu_12
      obtain ⟨x3_13, hx3_13⟩ : ∃ z, z = x3 + (1 : Int32) := ⟨_, rfl⟩
      have h := h x3_13 hx3_13
      refine zm_iinc (v := x3_13) (lv' := [(3, .int x3_13), (0, .ref (g.2.2.1 117)), (1, .int x1), (2, .int x2)]) C dX10_wouldChange_58 3 rfl (by rw [hx3_13]; rfl) (by decide) rfl ?_
      refine zm_goto (tgt := 39) C dX10_wouldChange_61 (by decide) ?_
      exact zm_sub [1, 2, 3, 0] rfl (ih _ _ _ _ h)
def w_X10_wouldChange (x1 : Int32) (x2 : Int32) (u : MU) (Q : Int32 → MU → Prop) : Prop := w_X10_knows  u (fun u_2 => w_X10_isBurrow u_2 x1 (fun r_3 => ((r_3 = 0) → wb_X10_wouldChange_20   Q u_2) ∧ ((¬ r_3 = 0) → w_X10_isBurrow u_2 x2 (fun r_6 => ((¬ r_6 = 0) → ((¬ x1 = x2) → ∃ nn, wl_X10_wouldChange_39   Q nn x1 x2 (0 : Int32) u_2) ∧ ((x1 = x2) → w_X10_raises (2 : Int32) u_2 (fun r_10 u_11 => Q r_10 u_11))) ∧ ((r_6 = 0) → wb_X10_wouldChange_20   Q u_2)))))
set_option maxHeartbeats 4000000 in
set_option maxRecDepth 100000 in
theorem c_X10_wouldChange (l : Launch) (g : GE) (U : MU) (u : MU) (W : (Nat → Int64) × (Nat → UInt64)) (x1 : Int32) (x2 : Int32) {Q : Int32 → MU → Prop} (h : w_X10_wouldChange x1 x2 u Q) : Met l yX10_wouldChange (.code yX10_wouldChange cX10_wouldChange 5 (Option.some Jvm.ClassFile.FieldType.int) :: TB) rm_X10_wouldChange (zPc g (U, u, W) [.ref (g.2.2.1 117), .int x1, .int x2]) (zQi g (zPm U W Q)) 0 0 (zA g) := by
  unfold w_X10_wouldChange at h
  refine zMet (own := RX10) [(0, .ref (g.2.2.1 117)), (1, .int x1), (2, .int x2)] (by decide +kernel) rfl (Nat.le_of_ble_eq_true rfl) rfl (fun p e s m args below meth c C hr => ?_)
  refine zm_aload_n C dX10_wouldChange_0 rfl 0 rfl ?_
  refine zm_cv (zr_V (As := []) (rest := []) C (c_X10_knows l g U u W  h) wd_1352 wd_1354 wp_55 wd_11 wd_1355 hy_X10_knows rfl rfl ⟨by decide, by decide⟩ ⟨by decide, by decide⟩ (ci := 10) (by decide) (zCell_k kd_117) rfl rfl rfl rfl (Nat.le_of_ble_eq_true rfl) dX10_wouldChange_1) (fun M1 hq => ?_)
  obtain ⟨u_2, rfl, h⟩ := hq
  refine zm_aload_n C dX10_wouldChange_4 rfl 0 rfl ?_
  refine zm_iload_n C dX10_wouldChange_5 rfl 1 rfl ?_
  refine zm_ci (zr_V (As := [.int x1]) (rest := []) C (c_X10_isBurrow l g U u_2 W x1 h) wd_1220 wd_1222 wp_37 wd_11 wd_1223 hy_X10_isBurrow rfl rfl ⟨by decide, by decide⟩ ⟨by decide, by decide⟩ (ci := 10) (by decide) (zCell_k kd_117) rfl rfl rfl rfl (Nat.le_of_ble_eq_true rfl) dX10_wouldChange_6) (fun r_3 M1 hq => ?_)
  obtain ⟨rfl, h⟩ := hq
  refine zm_if_eq (tgt := 20) C dX10_wouldChange_9 (by decide) (fun hc_5 => ?_) (fun hc_5 => ?_)
  · have h := h.1 hc_5
    exact zm_sub [0] rfl (vb_X10_wouldChange_20 C hr  _ h)
  · have h := h.2 hc_5
    refine zm_aload_n C dX10_wouldChange_12 rfl 0 rfl ?_
    refine zm_iload_n C dX10_wouldChange_13 rfl 2 rfl ?_
    refine zm_ci (zr_V (As := [.int x2]) (rest := []) C (c_X10_isBurrow l g U u_2 W x2 h) wd_1220 wd_1222 wp_37 wd_11 wd_1223 hy_X10_isBurrow rfl rfl ⟨by decide, by decide⟩ ⟨by decide, by decide⟩ (ci := 10) (by decide) (zCell_k kd_117) rfl rfl rfl rfl (Nat.le_of_ble_eq_true rfl) dX10_wouldChange_14) (fun r_6 M1 hq => ?_)
    obtain ⟨rfl, h⟩ := hq
    refine zm_if_ne (tgt := 26) C dX10_wouldChange_17 (by decide) (fun hc_8 => ?_) (fun hc_8 => ?_)
    · have h := h.1 hc_8
      refine zm_iload_n C dX10_wouldChange_26 rfl 1 rfl ?_
      refine zm_iload_n C dX10_wouldChange_27 rfl 2 rfl ?_
      refine zm_icmp_ne (tgt := 37) C dX10_wouldChange_28 (by decide) (fun hc_9 => ?_) (fun hc_9 => ?_)
      · have h := h.1 hc_9
        refine zm_iconst (v := 0) C dX10_wouldChange_37 (by decide) ?_
        refine zm_istore_n (lv' := [(3, .int (0 : Int32)), (0, .ref (g.2.2.1 117)), (1, .int x1), (2, .int x2)]) C dX10_wouldChange_38 rfl (by decide) rfl ?_
        obtain ⟨nn, h⟩ := h
        exact zm_sub [1, 2, 3, 0] rfl (vl_X10_wouldChange_39 C hr  nn _ _ _ _ h)
      · have h := h.2 hc_9
        refine zm_aload_n C dX10_wouldChange_31 rfl 0 rfl ?_
        refine zm_iconst (v := 2) C dX10_wouldChange_32 (by decide) ?_
        refine zm_ci (zr_V (As := [.int (2 : Int32)]) (rest := []) C (c_X10_raises l g U u_2 W (2 : Int32) h) wd_1204 wd_1206 wp_34 wd_11 wd_1207 hy_X10_raises rfl rfl ⟨by decide, by decide⟩ ⟨by decide, by decide⟩ (ci := 10) (by decide) (zCell_k kd_117) rfl rfl rfl rfl (Nat.le_of_ble_eq_true rfl) dX10_wouldChange_33) (fun r_10 M1 hq => ?_)
        obtain ⟨u_11, rfl, h⟩ := hq
        exact zm_iret C hr dX10_wouldChange_36 ⟨_, rfl, h⟩
    · have h := h.2 hc_8
      exact zm_sub [0] rfl (vb_X10_wouldChange_20 C hr  _ h)
abbrev rm_X10_isForFox : Room := { frames := 1, cells := 0, slots := 0, locals := 20 }
def wb_X10_isForFox_18 (u : MU) (Q : Int32 → Prop) (s0 : Int32) (s1 : Int32) : Prop := ((¬ s1 = s0) → Q (0 : Int32)) ∧ ((s1 = s0) → Q (1 : Int32))
set_option maxHeartbeats 4000000 in
set_option maxRecDepth 100000 in
theorem vb_X10_isForFox_18 {p : Program} {l : Launch} {e : Env} {s : State} {m : MethodId} {args : Array Value} {below : List Frame} {meth : Method} {c : Code} {g : GE} {U : MU} {W : (Nat → Int64) × (Nat → UInt64)} {u : MU} {Q : Int32 → Prop} (C : zCx p l s m args meth c g RX10 cX10_isForFox 2) (hr : meth.sig.returnType = (Option.some Jvm.ClassFile.FieldType.boolean)) (s0 : Int32) (s1 : Int32) (h : wb_X10_isForFox_18  u Q s0 s1) : WM p l e rm_X10_isForFox s m args below meth c g 2 0 0 (MQ below (zQi g (zP0 (U, u, W) Q)) args s 0 0 (zA g)) 18 [] [.int s0, .int s1] (U, u, W) := by
  unfold wb_X10_isForFox_18 at h
  refine zm_icmp_ne (tgt := 25) C dX10_isForFox_18 (by decide) (fun hc_1 => ?_) (fun hc_1 => ?_)
  · have h := h.1 hc_1
    refine zm_iconst (v := 0) C dX10_isForFox_25 (by decide) ?_
    exact zm_zret (ty := .boolean) C hr (by decide) dX10_isForFox_26 ⟨rfl, h⟩
  · have h := h.2 hc_1
    refine zm_iconst (v := 1) C dX10_isForFox_21 (by decide) ?_
    refine zm_goto (tgt := 26) C dX10_isForFox_22 (by decide) ?_
    exact zm_zret (ty := .boolean) C hr (by decide) dX10_isForFox_26 ⟨rfl, h⟩
def w_X10_isForFox (u : MU) (x1 : Int32) (Q : Int32 → Prop) : Prop := vp_in x1 1296 ∧ (w_X10_isGeese x1 (fun r_2 => ((r_2 = 0) → wb_X10_isForFox_18  u Q (1 : Int32) (u 126 (x1).toNatClampNeg)) ∧ ((¬ r_2 = 0) → wb_X10_isForFox_18  u Q (2 : Int32) (u 126 (x1).toNatClampNeg))))
set_option maxHeartbeats 4000000 in
set_option maxRecDepth 100000 in
theorem c_X10_isForFox (l : Launch) (g : GE) (U : MU) (u : MU) (W : (Nat → Int64) × (Nat → UInt64)) (x1 : Int32) {Q : Int32 → Prop} (h : w_X10_isForFox u x1 Q) : Met l yX10_isForFox (.code yX10_isForFox cX10_isForFox 2 (Option.some Jvm.ClassFile.FieldType.boolean) :: TB) rm_X10_isForFox (zPc g (U, u, W) [.ref (g.2.2.1 117), .int x1]) (zQi g (zP0 (U, u, W) Q)) 0 0 (zA g) := by
  unfold w_X10_isForFox at h
  refine zMet (own := RX10) [(0, .ref (g.2.2.1 117)), (1, .int x1)] (by decide +kernel) rfl (Nat.le_of_ble_eq_true rfl) rfl (fun p e s m args below meth c C hr => ?_)
  refine zm_aload_n C dX10_isForFox_0 rfl 0 rfl ?_
  refine gf_RX10_39 (k1 := 126) C kd_117 rfl dX10_isForFox_1 ?_
  refine zm_iload_n C dX10_isForFox_4 rfl 1 rfl ?_
  obtain ⟨hg_1, h⟩ := h
  refine zq_ld_m C kd_126 ln_126 hg_1 dX10_isForFox_5 ?_
  refine zm_iload_n C dX10_isForFox_6 rfl 1 rfl ?_
  refine zm_ci (zr_S (As := [.int x1]) (rest := [.int (u 126 (x1).toNatClampNeg)]) C (c_X10_isGeese l g (U, u, W) x1 h) wd_1293 wd_1294 wd_11 wd_1295 hy_X10_isGeese rfl rfl ⟨by decide, by decide⟩ ⟨by decide, by decide⟩ rfl rfl (Nat.le_of_ble_eq_true rfl) dX10_isForFox_7) (fun r_2 M1 hq => ?_)
  obtain ⟨rfl, h⟩ := hq
  refine zm_if_eq (tgt := 17) C dX10_isForFox_10 (by decide) (fun hc_4 => ?_) (fun hc_4 => ?_)
  · have h := h.1 hc_4
    refine zm_iconst (v := 1) C dX10_isForFox_17 (by decide) ?_
    exact zm_sub [] rfl (vb_X10_isForFox_18 C hr  _ _ h)
  · have h := h.2 hc_4
    refine zm_iconst (v := 2) C dX10_isForFox_13 (by decide) ?_
    refine zm_goto (tgt := 18) C dX10_isForFox_14 (by decide) ?_
    exact zm_sub [] rfl (vb_X10_isForFox_18 C hr  _ _ h)
abbrev rm_X10_bestBurrow : Room := { frames := 6, cells := 0, slots := 0, locals := 135 }
def wb_X10_bestBurrow_94 (L22 : Int32 → Int32 → Int32 → MU → Prop) (Q : Int32 → MU → Prop) (x1 : Int32) (x2 : Int32) (x3 : Int32) (u : MU) : Prop := ∀ x3_1, x3_1 = x3 + (1 : Int32) → L22 x1 x2 x3_1 u
set_option maxHeartbeats 4000000 in
set_option maxRecDepth 100000 in
theorem vb_X10_bestBurrow_94 {p : Program} {l : Launch} {e : Env} {s : State} {m : MethodId} {args : Array Value} {below : List Frame} {meth : Method} {c : Code} {g : GE} {U : MU} {W : (Nat → Int64) × (Nat → UInt64)} {Q : Int32 → MU → Prop} (C : zCx p l s m args meth c g RX10 cX10_bestBurrow 5) (hr : meth.sig.returnType = (Option.some Jvm.ClassFile.FieldType.int)) {L22 : Int32 → Int32 → Int32 → MU → Prop} (hL22 : ∀ (x1 : Int32) (x2 : Int32) (x3 : Int32) (u : MU), L22 x1 x2 x3 u → WM p l e rm_X10_bestBurrow s m args below meth c g 5 0 0 (MQ below (zQi g (zPm U W Q)) args s 0 0 (zA g)) 22 [(0, .ref (g.2.2.1 117)), (1, .int x1), (2, .int x2), (3, .int x3)] [] (U, u, W)) (x1 : Int32) (x2 : Int32) (x3 : Int32) (u : MU) (h : wb_X10_bestBurrow_94 L22  Q x1 x2 x3 u) : WM p l e rm_X10_bestBurrow s m args below meth c g 5 0 0 (MQ below (zQi g (zPm U W Q)) args s 0 0 (zA g)) 94 [(0, .ref (g.2.2.1 117)), (1, .int x1), (2, .int x2), (3, .int x3)] [] (U, u, W) := by
  unfold wb_X10_bestBurrow_94 at h
  obtain ⟨x3_1, hx3_1⟩ : ∃ z, z = x3 + (1 : Int32) := ⟨_, rfl⟩
  have h := h x3_1 hx3_1
  refine zm_iinc (v := x3_1) (lv' := [(3, .int x3_1), (0, .ref (g.2.2.1 117)), (1, .int x1), (2, .int x2)]) C dX10_bestBurrow_94 3 rfl (by rw [hx3_1]; rfl) (by decide) rfl ?_
  refine zm_goto (tgt := 22) C dX10_bestBurrow_97 (by decide) ?_
  exact zm_sub [1, 2, 3, 0] rfl (hL22 _ _ _ _ h)
def wb_X10_bestBurrow_91 (L22 : Int32 → Int32 → Int32 → MU → Prop) (Q : Int32 → MU → Prop) (x1 : Int32) (x3 : Int32) (x4 : Int32) (u : MU) : Prop := wb_X10_bestBurrow_94 L22  Q x1 x4 x3 u
set_option maxHeartbeats 4000000 in
set_option maxRecDepth 100000 in
theorem vb_X10_bestBurrow_91 {p : Program} {l : Launch} {e : Env} {s : State} {m : MethodId} {args : Array Value} {below : List Frame} {meth : Method} {c : Code} {g : GE} {U : MU} {W : (Nat → Int64) × (Nat → UInt64)} {Q : Int32 → MU → Prop} (C : zCx p l s m args meth c g RX10 cX10_bestBurrow 5) (hr : meth.sig.returnType = (Option.some Jvm.ClassFile.FieldType.int)) {L22 : Int32 → Int32 → Int32 → MU → Prop} (hL22 : ∀ (x1 : Int32) (x2 : Int32) (x3 : Int32) (u : MU), L22 x1 x2 x3 u → WM p l e rm_X10_bestBurrow s m args below meth c g 5 0 0 (MQ below (zQi g (zPm U W Q)) args s 0 0 (zA g)) 22 [(0, .ref (g.2.2.1 117)), (1, .int x1), (2, .int x2), (3, .int x3)] [] (U, u, W)) (x1 : Int32) (x3 : Int32) (x4 : Int32) (u : MU) (h : wb_X10_bestBurrow_91 L22  Q x1 x3 x4 u) : WM p l e rm_X10_bestBurrow s m args below meth c g 5 0 0 (MQ below (zQi g (zPm U W Q)) args s 0 0 (zA g)) 91 [(0, .ref (g.2.2.1 117)), (1, .int x1), (3, .int x3), (4, .int x4)] [] (U, u, W) := by
  unfold wb_X10_bestBurrow_91 at h
  refine zm_iload C dX10_bestBurrow_91 3 rfl ?_
  refine zm_istore_n (lv' := [(2, .int x4), (0, .ref (g.2.2.1 117)), (1, .int x1), (3, .int x3), (4, .int x4)]) C dX10_bestBurrow_93 rfl (by decide) rfl ?_
  exact zm_sub [1, 2, 0, 3] rfl (vb_X10_bestBurrow_94 C hr hL22 _ _ _ _ h)
def wl_X10_bestBurrow_22 (Q : Int32 → MU → Prop) : Nat → Int32 → Int32 → Int32 → MU → Prop
  | 0, _, _, _, _ => False
  | n + 1, x1, x2, x3, u => vp_in (0 : Int32) 119 ∧ ((((u 118 ((0 : Int32)).toNatClampNeg) ≤ x3) → ((0 ≤ x2) → w_X10_fox x2 (fun r_4 => Q r_4 u)) ∧ ((¬ 0 ≤ x2) → w_X10_raises (1 : Int32) u (fun r_6 u_7 => Q r_6 u_7))) ∧ ((¬ (u 118 ((0 : Int32)).toNatClampNeg) ≤ x3) → w_X10_first x1 (fun r_8 => w_X10_second x1 (fun r_10 => w_X10_isGeese x1 (fun r_12 => w_X10_numberOf x3 r_8 r_10 r_12 (fun r_14 => w_X10_isPosition u r_14 (fun r_16 => ((r_16 = 0) → wb_X10_bestBurrow_94 (fun x1' x2' x3' u' => wl_X10_bestBurrow_22  Q n x1' x2' x3' u')  Q x1 x2 x3 u) ∧ ((¬ r_16 = 0) → w_X10_isForFox u r_14 (fun r_19 => ((¬ r_19 = 0) → ((x2 < 0) → wb_X10_bestBurrow_91 (fun x1' x2' x3' u' => wl_X10_bestBurrow_22  Q n x1' x2' x3' u')  Q x1 x3 r_14 u) ∧ ((¬ x2 < 0) → vp_in r_14 1296 ∧ (vp_in x2 1296 ∧ ((((u 127 (x2).toNatClampNeg) ≤ (u 127 (r_14).toNatClampNeg)) → wb_X10_bestBurrow_94 (fun x1' x2' x3' u' => wl_X10_bestBurrow_22  Q n x1' x2' x3' u')  Q x1 x2 x3 u) ∧ ((¬ (u 127 (x2).toNatClampNeg) ≤ (u 127 (r_14).toNatClampNeg)) → wb_X10_bestBurrow_91 (fun x1' x2' x3' u' => wl_X10_bestBurrow_22  Q n x1' x2' x3' u')  Q x1 x3 r_14 u))))) ∧ ((r_19 = 0) → wb_X10_bestBurrow_94 (fun x1' x2' x3' u' => wl_X10_bestBurrow_22  Q n x1' x2' x3' u')  Q x1 x2 x3 u))))))))))
set_option maxHeartbeats 4000000 in
set_option maxRecDepth 100000 in
theorem vl_X10_bestBurrow_22 {p : Program} {l : Launch} {e : Env} {s : State} {m : MethodId} {args : Array Value} {below : List Frame} {meth : Method} {c : Code} {g : GE} {U : MU} {W : (Nat → Int64) × (Nat → UInt64)} {Q : Int32 → MU → Prop} (C : zCx p l s m args meth c g RX10 cX10_bestBurrow 5) (hr : meth.sig.returnType = (Option.some Jvm.ClassFile.FieldType.int)) : ∀ (n : Nat) (x1 : Int32) (x2 : Int32) (x3 : Int32) (u : MU) , wl_X10_bestBurrow_22   Q n x1 x2 x3 u → WM p l e rm_X10_bestBurrow s m args below meth c g 5 0 0 (MQ below (zQi g (zPm U W Q)) args s 0 0 (zA g)) 22 [(0, .ref (g.2.2.1 117)), (1, .int x1), (2, .int x2), (3, .int x3)] [] (U, u, W) := by
  intro n
  induction n with
  | zero => intro _ _ _ _ h; exact h.elim
  | succ n ih =>
    intro x1 x2 x3 u h
    unfold wl_X10_bestBurrow_22 at h
    refine zm_iload_n C dX10_bestBurrow_22 rfl 3 rfl ?_
    refine zm_aload_n C dX10_bestBurrow_23 rfl 0 rfl ?_
    refine gf_RX10_9 (k1 := 118) C kd_117 rfl dX10_bestBurrow_24 ?_
    refine zm_iconst (v := 0) C dX10_bestBurrow_27 (by decide) ?_
    obtain ⟨hg_1, h⟩ := h
    refine zq_ld_m C kd_118 ln_118 hg_1 dX10_bestBurrow_28 ?_
    refine zm_icmp_ge (tgt := 100) C dX10_bestBurrow_29 (by decide) (fun hc_2 => ?_) (fun hc_2 => ?_)
    · have h := h.1 hc_2
      refine zm_iload_n C dX10_bestBurrow_100 rfl 2 rfl ?_
      refine zm_if_ge (tgt := 112) C dX10_bestBurrow_101 (by decide) (fun hc_3 => ?_) (fun hc_3 => ?_)
      · have h := h.1 hc_3
        refine zm_iload_n C dX10_bestBurrow_112 rfl 2 rfl ?_
        refine zm_ci (zr_S (As := [.int x2]) (rest := []) C (c_X10_fox l g (U, u, W) x2 h) wd_1272 wd_1273 wd_11 wd_1274 hy_X10_fox rfl rfl ⟨by decide, by decide⟩ ⟨by decide, by decide⟩ rfl rfl (Nat.le_of_ble_eq_true rfl) dX10_bestBurrow_113) (fun r_4 M1 hq => ?_)
        obtain ⟨rfl, h⟩ := hq
        exact zm_iret C hr dX10_bestBurrow_116 ⟨_, rfl, h⟩
      · have h := h.2 hc_3
        refine zm_aload_n C dX10_bestBurrow_104 rfl 0 rfl ?_
        refine zm_iconst (v := 1) C dX10_bestBurrow_105 (by decide) ?_
        refine zm_ci (zr_V (As := [.int (1 : Int32)]) (rest := []) C (c_X10_raises l g U u W (1 : Int32) h) wd_1204 wd_1206 wp_34 wd_11 wd_1207 hy_X10_raises rfl rfl ⟨by decide, by decide⟩ ⟨by decide, by decide⟩ (ci := 10) (by decide) (zCell_k kd_117) rfl rfl rfl rfl (Nat.le_of_ble_eq_true rfl) dX10_bestBurrow_106) (fun r_6 M1 hq => ?_)
        obtain ⟨u_7, rfl, h⟩ := hq
        refine zm_goto (tgt := 116) C dX10_bestBurrow_109 (by decide) ?_
        exact zm_iret C hr dX10_bestBurrow_116 ⟨_, rfl, h⟩
    · have h := h.2 hc_2
      refine zm_iload_n C dX10_bestBurrow_32 rfl 3 rfl ?_
      refine zm_iload_n C dX10_bestBurrow_33 rfl 1 rfl ?_
      refine zm_ci (zr_S (As := [.int x1]) (rest := [.int x3]) C (c_X10_first l g (U, u, W) x1 h) wd_1275 wd_1276 wd_11 wd_1277 hy_X10_first rfl rfl ⟨by decide, by decide⟩ ⟨by decide, by decide⟩ rfl rfl (Nat.le_of_ble_eq_true rfl) dX10_bestBurrow_34) (fun r_8 M1 hq => ?_)
      obtain ⟨rfl, h⟩ := hq
      refine zm_iload_n C dX10_bestBurrow_37 rfl 1 rfl ?_
      refine zm_ci (zr_S (As := [.int x1]) (rest := [.int r_8, .int x3]) C (c_X10_second l g (U, u, W) x1 h) wd_1278 wd_1279 wd_11 wd_1280 hy_X10_second rfl rfl ⟨by decide, by decide⟩ ⟨by decide, by decide⟩ rfl rfl (Nat.le_of_ble_eq_true rfl) dX10_bestBurrow_38) (fun r_10 M1 hq => ?_)
      obtain ⟨rfl, h⟩ := hq
      refine zm_iload_n C dX10_bestBurrow_41 rfl 1 rfl ?_
      refine zm_ci (zr_S (As := [.int x1]) (rest := [.int r_10, .int r_8, .int x3]) C (c_X10_isGeese l g (U, u, W) x1 h) wd_1293 wd_1294 wd_11 wd_1295 hy_X10_isGeese rfl rfl ⟨by decide, by decide⟩ ⟨by decide, by decide⟩ rfl rfl (Nat.le_of_ble_eq_true rfl) dX10_bestBurrow_42) (fun r_12 M1 hq => ?_)
      obtain ⟨rfl, h⟩ := hq
      refine zm_ci (zr_S (As := [.int x3, .int r_8, .int r_10, .int r_12]) (rest := []) C (c_X10_numberOf l g (U, u, W) x3 r_8 r_10 r_12 h) wd_1315 wd_1316 wd_11 wd_1317 hy_X10_numberOf rfl rfl ⟨by decide, by decide⟩ ⟨by decide, by decide⟩ rfl rfl (Nat.le_of_ble_eq_true rfl) dX10_bestBurrow_45) (fun r_14 M1 hq => ?_)
      obtain ⟨rfl, h⟩ := hq
      refine zm_istore (lv' := [(4, .int r_14), (0, .ref (g.2.2.1 117)), (1, .int x1), (2, .int x2), (3, .int x3)]) C dX10_bestBurrow_48 (by decide) rfl ?_
      refine zm_aload_n C dX10_bestBurrow_50 rfl 1 rfl ?_
      refine zm_iload C dX10_bestBurrow_51 0 rfl ?_
      refine zm_ci (zr_V (As := [.int r_14]) (rest := []) C (c_X10_isPosition l g U u W r_14 h) wd_1268 wd_1270 wp_44 wd_11 wd_1271 hy_X10_isPosition rfl rfl ⟨by decide, by decide⟩ ⟨by decide, by decide⟩ (ci := 10) (by decide) (zCell_k kd_117) rfl rfl rfl rfl (Nat.le_of_ble_eq_true rfl) dX10_bestBurrow_53) (fun r_16 M1 hq => ?_)
      obtain ⟨rfl, h⟩ := hq
      refine zm_if_eq (tgt := 94) C dX10_bestBurrow_56 (by decide) (fun hc_18 => ?_) (fun hc_18 => ?_)
      · have h := h.1 hc_18
        exact zm_sub [1, 2, 3, 4] rfl (vb_X10_bestBurrow_94 C hr ih _ _ _ _ h)
      · have h := h.2 hc_18
        refine zm_aload_n C dX10_bestBurrow_59 rfl 1 rfl ?_
        refine zm_iload C dX10_bestBurrow_60 0 rfl ?_
        refine zm_ci (zr_V (As := [.int r_14]) (rest := []) C (c_X10_isForFox l g U u W r_14 h) wd_1396 wd_1398 wp_56 wd_11 wd_1399 hy_X10_isForFox rfl rfl ⟨by decide, by decide⟩ ⟨by decide, by decide⟩ (ci := 10) (by decide) (zCell_k kd_117) rfl rfl rfl rfl (Nat.le_of_ble_eq_true rfl) dX10_bestBurrow_62) (fun r_19 M1 hq => ?_)
        obtain ⟨rfl, h⟩ := hq
        refine zm_if_ne (tgt := 71) C dX10_bestBurrow_65 (by decide) (fun hc_21 => ?_) (fun hc_21 => ?_)
        · have h := h.1 hc_21
          refine zm_iload_n C dX10_bestBurrow_71 rfl 3 rfl ?_
          refine zm_if_lt (tgt := 91) C dX10_bestBurrow_72 (by decide) (fun hc_22 => ?_) (fun hc_22 => ?_)
          · have h := h.1 hc_22
            exact zm_sub [1, 2, 4, 0] rfl (vb_X10_bestBurrow_91 C hr ih _ _ _ _ h)
          · have h := h.2 hc_22
            refine zm_aload_n C dX10_bestBurrow_75 rfl 1 rfl ?_
            refine gf_RX10_42 (k1 := 127) C kd_117 rfl dX10_bestBurrow_76 ?_
            refine zm_iload C dX10_bestBurrow_79 0 rfl ?_
            obtain ⟨hg_23, h⟩ := h
            refine zq_ld_m C kd_127 ln_127 hg_23 dX10_bestBurrow_81 ?_
            refine zm_aload_n C dX10_bestBurrow_82 rfl 1 rfl ?_
            refine gf_RX10_42 (k1 := 127) C kd_117 rfl dX10_bestBurrow_83 ?_
            refine zm_iload_n C dX10_bestBurrow_86 rfl 3 rfl ?_
            obtain ⟨hg_24, h⟩ := h
            refine zq_ld_m C kd_127 ln_127 hg_24 dX10_bestBurrow_87 ?_
            refine zm_icmp_ge (tgt := 94) C dX10_bestBurrow_88 (by decide) (fun hc_25 => ?_) (fun hc_25 => ?_)
            · have h := h.1 hc_25
              exact zm_sub [1, 2, 3, 4] rfl (vb_X10_bestBurrow_94 C hr ih _ _ _ _ h)
            · have h := h.2 hc_25
              exact zm_sub [1, 2, 4, 0] rfl (vb_X10_bestBurrow_91 C hr ih _ _ _ _ h)
        · have h := h.2 hc_21
          refine zm_goto (tgt := 94) C dX10_bestBurrow_68 (by decide) ?_
          exact zm_sub [1, 2, 3, 4] rfl (vb_X10_bestBurrow_94 C hr ih _ _ _ _ h)
def w_X10_bestBurrow (x1 : Int32) (u : MU) (Q : Int32 → MU → Prop) : Prop := w_X10_knows  u (fun u_2 => w_X10_isPosition u_2 x1 (fun r_3 => ((¬ r_3 = 0) → ∃ nn, wl_X10_bestBurrow_22   Q nn x1 (-1 : Int32) (0 : Int32) u_2) ∧ ((r_3 = 0) → w_X10_raises (1 : Int32) u_2 (fun r_6 u_7 => Q r_6 u_7))))
set_option maxHeartbeats 4000000 in
set_option maxRecDepth 100000 in
theorem c_X10_bestBurrow (l : Launch) (g : GE) (U : MU) (u : MU) (W : (Nat → Int64) × (Nat → UInt64)) (x1 : Int32) {Q : Int32 → MU → Prop} (h : w_X10_bestBurrow x1 u Q) : Met l yX10_bestBurrow (.code yX10_bestBurrow cX10_bestBurrow 5 (Option.some Jvm.ClassFile.FieldType.int) :: TB) rm_X10_bestBurrow (zPc g (U, u, W) [.ref (g.2.2.1 117), .int x1]) (zQi g (zPm U W Q)) 0 0 (zA g) := by
  unfold w_X10_bestBurrow at h
  refine zMet (own := RX10) [(0, .ref (g.2.2.1 117)), (1, .int x1)] (by decide +kernel) rfl (Nat.le_of_ble_eq_true rfl) rfl (fun p e s m args below meth c C hr => ?_)
  refine zm_aload_n C dX10_bestBurrow_0 rfl 0 rfl ?_
  refine zm_cv (zr_V (As := []) (rest := []) C (c_X10_knows l g U u W  h) wd_1352 wd_1354 wp_55 wd_11 wd_1355 hy_X10_knows rfl rfl ⟨by decide, by decide⟩ ⟨by decide, by decide⟩ (ci := 10) (by decide) (zCell_k kd_117) rfl rfl rfl rfl (Nat.le_of_ble_eq_true rfl) dX10_bestBurrow_1) (fun M1 hq => ?_)
  obtain ⟨u_2, rfl, h⟩ := hq
  refine zm_aload_n C dX10_bestBurrow_4 rfl 0 rfl ?_
  refine zm_iload_n C dX10_bestBurrow_5 rfl 1 rfl ?_
  refine zm_ci (zr_V (As := [.int x1]) (rest := []) C (c_X10_isPosition l g U u_2 W x1 h) wd_1268 wd_1270 wp_44 wd_11 wd_1271 hy_X10_isPosition rfl rfl ⟨by decide, by decide⟩ ⟨by decide, by decide⟩ (ci := 10) (by decide) (zCell_k kd_117) rfl rfl rfl rfl (Nat.le_of_ble_eq_true rfl) dX10_bestBurrow_6) (fun r_3 M1 hq => ?_)
  obtain ⟨rfl, h⟩ := hq
  refine zm_if_ne (tgt := 18) C dX10_bestBurrow_9 (by decide) (fun hc_5 => ?_) (fun hc_5 => ?_)
  · have h := h.1 hc_5
    refine zm_iconst (v := -1) C dX10_bestBurrow_18 (by decide) ?_
    refine zm_istore_n (lv' := [(2, .int (-1 : Int32)), (0, .ref (g.2.2.1 117)), (1, .int x1)]) C dX10_bestBurrow_19 rfl (by decide) rfl ?_
    refine zm_iconst (v := 0) C dX10_bestBurrow_20 (by decide) ?_
    refine zm_istore_n (lv' := [(3, .int (0 : Int32)), (2, .int (-1 : Int32)), (0, .ref (g.2.2.1 117)), (1, .int x1)]) C dX10_bestBurrow_21 rfl (by decide) rfl ?_
    obtain ⟨nn, h⟩ := h
    exact zm_sub [2, 3, 1, 0] rfl (vl_X10_bestBurrow_22 C hr  nn _ _ _ _ h)
  · have h := h.2 hc_5
    refine zm_aload_n C dX10_bestBurrow_12 rfl 0 rfl ?_
    refine zm_iconst (v := 1) C dX10_bestBurrow_13 (by decide) ?_
    refine zm_ci (zr_V (As := [.int (1 : Int32)]) (rest := []) C (c_X10_raises l g U u_2 W (1 : Int32) h) wd_1204 wd_1206 wp_34 wd_11 wd_1207 hy_X10_raises rfl rfl ⟨by decide, by decide⟩ ⟨by decide, by decide⟩ (ci := 10) (by decide) (zCell_k kd_117) rfl rfl rfl rfl (Nat.le_of_ble_eq_true rfl) dX10_bestBurrow_14) (fun r_6 M1 hq => ?_)
    obtain ⟨u_7, rfl, h⟩ := hq
    exact zm_iret C hr dX10_bestBurrow_17 ⟨_, rfl, h⟩
abbrev rm_X10_burrowOf : Room := { frames := 6, cells := 0, slots := 0, locals := 135 }
def wb_X10_burrowOf_130 (L97 : Int32 → Int32 → Int32 → MU → Prop) (Q : Int32 → MU → Prop) (x1 : Int32) (x3 : Int32) (x4 : Int32) (u : MU) : Prop := ∀ x4_1, x4_1 = x4 + (1 : Int32) → L97 x1 x3 x4_1 u
set_option maxHeartbeats 4000000 in
set_option maxRecDepth 100000 in
theorem vb_X10_burrowOf_130 {p : Program} {l : Launch} {e : Env} {s : State} {m : MethodId} {args : Array Value} {below : List Frame} {meth : Method} {c : Code} {g : GE} {U : MU} {W : (Nat → Int64) × (Nat → UInt64)} {Q : Int32 → MU → Prop} (C : zCx p l s m args meth c g RX10 cX10_burrowOf 5) (hr : meth.sig.returnType = (Option.some Jvm.ClassFile.FieldType.int)) {L97 : Int32 → Int32 → Int32 → MU → Prop} (hL97 : ∀ (x1 : Int32) (x3 : Int32) (x4 : Int32) (u : MU), L97 x1 x3 x4 u → WM p l e rm_X10_burrowOf s m args below meth c g 5 0 0 (MQ below (zQi g (zPm U W Q)) args s 0 0 (zA g)) 97 [(0, .ref (g.2.2.1 117)), (1, .int x1), (3, .int x3), (4, .int x4)] [] (U, u, W)) (x1 : Int32) (x3 : Int32) (x4 : Int32) (u : MU) (h : wb_X10_burrowOf_130 L97  Q x1 x3 x4 u) : WM p l e rm_X10_burrowOf s m args below meth c g 5 0 0 (MQ below (zQi g (zPm U W Q)) args s 0 0 (zA g)) 130 [(0, .ref (g.2.2.1 117)), (1, .int x1), (3, .int x3), (4, .int x4)] [] (U, u, W) := by
  unfold wb_X10_burrowOf_130 at h
  obtain ⟨x4_1, hx4_1⟩ : ∃ z, z = x4 + (1 : Int32) := ⟨_, rfl⟩
  have h := h x4_1 hx4_1
  refine zm_iinc (v := x4_1) (lv' := [(4, .int x4_1), (0, .ref (g.2.2.1 117)), (1, .int x1), (3, .int x3)]) C dX10_burrowOf_130 3 rfl (by rw [hx4_1]; rfl) (by decide) rfl ?_
  refine zm_goto (tgt := 97) C dX10_burrowOf_133 (by decide) ?_
  exact zm_sub [1, 2, 3, 0] rfl (hL97 _ _ _ _ h)
def wl_X10_burrowOf_97 (Q : Int32 → MU → Prop) : Nat → Int32 → Int32 → Int32 → MU → Prop
  | 0, _, _, _, _ => False
  | n + 1, x1, x3, x4, u => ((((162 : Int32) * (x1 + (1 : Int32))) ≤ x4) → Q x3 u) ∧ ((¬ ((162 : Int32) * (x1 + (1 : Int32))) ≤ x4) → w_X10_isPosition u x4 (fun r_2 => ((r_2 = 0) → wb_X10_burrowOf_130 (fun x1' x3' x4' u' => wl_X10_burrowOf_97  Q n x1' x3' x4' u')  Q x1 x3 x4 u) ∧ ((¬ r_2 = 0) → w_X10_isForFox u x4 (fun r_5 => ((r_5 = 0) → wb_X10_burrowOf_130 (fun x1' x3' x4' u' => wl_X10_burrowOf_97  Q n x1' x3' x4' u')  Q x1 x3 x4 u) ∧ ((¬ r_5 = 0) → ∀ x3_8, x3_8 = x3 + (1 : Int32) → wb_X10_burrowOf_130 (fun x1' x3' x4' u' => wl_X10_burrowOf_97  Q n x1' x3' x4' u')  Q x1 x3_8 x4 u)))))
set_option maxHeartbeats 4000000 in
set_option maxRecDepth 100000 in
theorem vl_X10_burrowOf_97 {p : Program} {l : Launch} {e : Env} {s : State} {m : MethodId} {args : Array Value} {below : List Frame} {meth : Method} {c : Code} {g : GE} {U : MU} {W : (Nat → Int64) × (Nat → UInt64)} {Q : Int32 → MU → Prop} (C : zCx p l s m args meth c g RX10 cX10_burrowOf 5) (hr : meth.sig.returnType = (Option.some Jvm.ClassFile.FieldType.int)) : ∀ (n : Nat) (x1 : Int32) (x3 : Int32) (x4 : Int32) (u : MU) , wl_X10_burrowOf_97   Q n x1 x3 x4 u → WM p l e rm_X10_burrowOf s m args below meth c g 5 0 0 (MQ below (zQi g (zPm U W Q)) args s 0 0 (zA g)) 97 [(0, .ref (g.2.2.1 117)), (1, .int x1), (3, .int x3), (4, .int x4)] [] (U, u, W) := by
  intro n
  induction n with
  | zero => intro _ _ _ _ h; exact h.elim
  | succ n ih =>
    intro x1 x3 x4 u h
    unfold wl_X10_burrowOf_97 at h
    refine zm_iload C dX10_burrowOf_97 3 rfl ?_
    refine zm_sipush (v := 162) C dX10_burrowOf_99 (by decide) ?_
    refine zm_iload_n C dX10_burrowOf_102 rfl 1 rfl ?_
    refine zm_iconst (v := 1) C dX10_burrowOf_103 (by decide) ?_
    refine zm_iadd C dX10_burrowOf_104 ?_
    refine zm_imul C dX10_burrowOf_105 ?_
    refine zm_icmp_ge (tgt := 136) C dX10_burrowOf_106 (by decide) (fun hc_1 => ?_) (fun hc_1 => ?_)
    · have h := h.1 hc_1
      refine zm_iload_n C dX10_burrowOf_136 rfl 2 rfl ?_
      exact zm_iret C hr dX10_burrowOf_137 ⟨_, rfl, h⟩
    · have h := h.2 hc_1
      refine zm_aload_n C dX10_burrowOf_109 rfl 0 rfl ?_
      refine zm_iload C dX10_burrowOf_110 3 rfl ?_
      refine zm_ci (zr_V (As := [.int x4]) (rest := []) C (c_X10_isPosition l g U u W x4 h) wd_1268 wd_1270 wp_44 wd_11 wd_1271 hy_X10_isPosition rfl rfl ⟨by decide, by decide⟩ ⟨by decide, by decide⟩ (ci := 10) (by decide) (zCell_k kd_117) rfl rfl rfl rfl (Nat.le_of_ble_eq_true rfl) dX10_burrowOf_112) (fun r_2 M1 hq => ?_)
      obtain ⟨rfl, h⟩ := hq
      refine zm_if_eq (tgt := 130) C dX10_burrowOf_115 (by decide) (fun hc_4 => ?_) (fun hc_4 => ?_)
      · have h := h.1 hc_4
        exact zm_sub [0, 1, 2, 3] rfl (vb_X10_burrowOf_130 C hr ih _ _ _ _ h)
      · have h := h.2 hc_4
        refine zm_aload_n C dX10_burrowOf_118 rfl 0 rfl ?_
        refine zm_iload C dX10_burrowOf_119 3 rfl ?_
        refine zm_ci (zr_V (As := [.int x4]) (rest := []) C (c_X10_isForFox l g U u W x4 h) wd_1396 wd_1398 wp_56 wd_11 wd_1399 hy_X10_isForFox rfl rfl ⟨by decide, by decide⟩ ⟨by decide, by decide⟩ (ci := 10) (by decide) (zCell_k kd_117) rfl rfl rfl rfl (Nat.le_of_ble_eq_true rfl) dX10_burrowOf_121) (fun r_5 M1 hq => ?_)
        obtain ⟨rfl, h⟩ := hq
        refine zm_if_eq (tgt := 130) C dX10_burrowOf_124 (by decide) (fun hc_7 => ?_) (fun hc_7 => ?_)
        · have h := h.1 hc_7
          exact zm_sub [0, 1, 2, 3] rfl (vb_X10_burrowOf_130 C hr ih _ _ _ _ h)
        · have h := h.2 hc_7
          obtain ⟨x3_8, hx3_8⟩ : ∃ z, z = x3 + (1 : Int32) := ⟨_, rfl⟩
          have h := h x3_8 hx3_8
          refine zm_iinc (v := x3_8) (lv' := [(3, .int x3_8), (0, .ref (g.2.2.1 117)), (1, .int x1), (4, .int x4)]) C dX10_burrowOf_127 2 rfl (by rw [hx3_8]; rfl) (by decide) rfl ?_
          exact zm_sub [1, 2, 0, 3] rfl (vb_X10_burrowOf_130 C hr ih _ _ _ _ h)
def w_X10_burrowOf (x1 : Int32) (x2 : Int32) (u : MU) (Q : Int32 → MU → Prop) : Prop := w_X10_knows  u (fun u_2 => w_X10_isBurrow u_2 x1 (fun r_3 => ((¬ r_3 = 0) → (x2 = (0 : Int32) → vp_in x1 8 ∧ (w_J6_bitCount_0f7a4 (u_2 125 (x1).toNatClampNeg) (fun r_9 => Q r_9 u_2))) ∧ (¬ x2 = (0 : Int32) → (x2 = (1 : Int32) → vp_in x1 8 ∧ (w_J6_bitCount_0f7a4 ((u_2 125 (x1).toNatClampNeg) >>> ((x1 + (1 : Int32)) &&& 31)) (fun r_13 => Q r_13 u_2))) ∧ (¬ x2 = (1 : Int32) → (x2 = (2 : Int32) → w_X10_isTrap u_2 x1 (fun r_16 => ((r_16 = 0) → Q (0 : Int32) u_2) ∧ ((¬ r_16 = 0) → Q (1 : Int32) u_2))) ∧ (¬ x2 = (2 : Int32) → (x2 = (3 : Int32) → ∀ x4_20, x4_20 = ((162 : Int32) * x1) → ∃ nn, wl_X10_burrowOf_97   Q nn x1 (0 : Int32) x4_20 u_2) ∧ (¬ x2 = (3 : Int32) → w_X10_raises (2 : Int32) u_2 (fun r_21 u_22 => Q r_21 u_22)))))) ∧ ((r_3 = 0) → w_X10_raises (1 : Int32) u_2 (fun r_23 u_24 => Q r_23 u_24))))
set_option maxHeartbeats 4000000 in
set_option maxRecDepth 100000 in
theorem c_X10_burrowOf (l : Launch) (g : GE) (U : MU) (u : MU) (W : (Nat → Int64) × (Nat → UInt64)) (x1 : Int32) (x2 : Int32) {Q : Int32 → MU → Prop} (h : w_X10_burrowOf x1 x2 u Q) : Met l yX10_burrowOf (.code yX10_burrowOf cX10_burrowOf 5 (Option.some Jvm.ClassFile.FieldType.int) :: TB) rm_X10_burrowOf (zPc g (U, u, W) [.ref (g.2.2.1 117), .int x1, .int x2]) (zQi g (zPm U W Q)) 0 0 (zA g) := by
  unfold w_X10_burrowOf at h
  refine zMet (own := RX10) [(0, .ref (g.2.2.1 117)), (1, .int x1), (2, .int x2)] (by decide +kernel) rfl (Nat.le_of_ble_eq_true rfl) rfl (fun p e s m args below meth c C hr => ?_)
  refine zm_aload_n C dX10_burrowOf_0 rfl 0 rfl ?_
  refine zm_cv (zr_V (As := []) (rest := []) C (c_X10_knows l g U u W  h) wd_1352 wd_1354 wp_55 wd_11 wd_1355 hy_X10_knows rfl rfl ⟨by decide, by decide⟩ ⟨by decide, by decide⟩ (ci := 10) (by decide) (zCell_k kd_117) rfl rfl rfl rfl (Nat.le_of_ble_eq_true rfl) dX10_burrowOf_1) (fun M1 hq => ?_)
  obtain ⟨u_2, rfl, h⟩ := hq
  refine zm_aload_n C dX10_burrowOf_4 rfl 0 rfl ?_
  refine zm_iload_n C dX10_burrowOf_5 rfl 1 rfl ?_
  refine zm_ci (zr_V (As := [.int x1]) (rest := []) C (c_X10_isBurrow l g U u_2 W x1 h) wd_1220 wd_1222 wp_37 wd_11 wd_1223 hy_X10_isBurrow rfl rfl ⟨by decide, by decide⟩ ⟨by decide, by decide⟩ (ci := 10) (by decide) (zCell_k kd_117) rfl rfl rfl rfl (Nat.le_of_ble_eq_true rfl) dX10_burrowOf_6) (fun r_3 M1 hq => ?_)
  obtain ⟨rfl, h⟩ := hq
  refine zm_if_ne (tgt := 18) C dX10_burrowOf_9 (by decide) (fun hc_5 => ?_) (fun hc_5 => ?_)
  · have h := h.1 hc_5
    refine zm_iconst (v := 0) C dX10_burrowOf_18 (by decide) ?_
    refine zm_istore_n (lv' := [(3, .int (0 : Int32)), (0, .ref (g.2.2.1 117)), (1, .int x1), (2, .int x2)]) C dX10_burrowOf_19 rfl (by decide) rfl ?_
    refine zm_iload_n C dX10_burrowOf_20 rfl 3 rfl ?_
    by_cases hc_7 : x2 = (0 : Int32)
    · have h := h.1 hc_7
      refine zm_tableIn (tgt := 52) C dX10_burrowOf_21 (by rw [hc_7]; decide) (by rw [hc_7]; decide) (by rw [hc_7]; rfl) (by decide) ?_
      refine zm_aload_n C dX10_burrowOf_52 rfl 1 rfl ?_
      refine gf_RX10_36 (k1 := 125) C kd_117 rfl dX10_burrowOf_53 ?_
      refine zm_iload_n C dX10_burrowOf_56 rfl 2 rfl ?_
      obtain ⟨hg_8, h⟩ := h
      refine zq_ld_m C kd_125 ln_125 hg_8 dX10_burrowOf_57 ?_
      refine zm_ci (zr_Sx (As := [.int (u_2 125 (x1).toNatClampNeg)]) (rest := []) C (c_J6_bitCount_0f7a4 l g (U, u_2, W) (u_2 125 (x1).toNatClampNeg) h) wd_1251 wd_526 wd_18 wd_527 hz_J6_bitCount_0f7a4 rfl rfl ⟨by decide, by decide⟩ ⟨by decide, by decide⟩ rfl rfl (Nat.le_of_ble_eq_true rfl) dX10_burrowOf_58) (fun r_9 M1 hq => ?_)
      obtain ⟨rfl, h⟩ := hq
      exact zm_iret C hr dX10_burrowOf_61 ⟨_, rfl, h⟩
    · have h := h.2 hc_7
      by_cases hc_11 : x2 = (1 : Int32)
      · have h := h.1 hc_11
        refine zm_tableIn (tgt := 62) C dX10_burrowOf_21 (by rw [hc_11]; decide) (by rw [hc_11]; decide) (by rw [hc_11]; rfl) (by decide) ?_
        refine zm_aload_n C dX10_burrowOf_62 rfl 1 rfl ?_
        refine gf_RX10_36 (k1 := 125) C kd_117 rfl dX10_burrowOf_63 ?_
        refine zm_iload_n C dX10_burrowOf_66 rfl 2 rfl ?_
        obtain ⟨hg_12, h⟩ := h
        refine zq_ld_m C kd_125 ln_125 hg_12 dX10_burrowOf_67 ?_
        refine zm_iload_n C dX10_burrowOf_68 rfl 2 rfl ?_
        refine zm_iconst (v := 1) C dX10_burrowOf_69 (by decide) ?_
        refine zm_iadd C dX10_burrowOf_70 ?_
        refine zm_ishr C dX10_burrowOf_71 ?_
        refine zm_ci (zr_Sx (As := [.int ((u_2 125 (x1).toNatClampNeg) >>> ((x1 + (1 : Int32)) &&& 31))]) (rest := []) C (c_J6_bitCount_0f7a4 l g (U, u_2, W) ((u_2 125 (x1).toNatClampNeg) >>> ((x1 + (1 : Int32)) &&& 31)) h) wd_1251 wd_526 wd_18 wd_527 hz_J6_bitCount_0f7a4 rfl rfl ⟨by decide, by decide⟩ ⟨by decide, by decide⟩ rfl rfl (Nat.le_of_ble_eq_true rfl) dX10_burrowOf_72) (fun r_13 M1 hq => ?_)
        obtain ⟨rfl, h⟩ := hq
        exact zm_iret C hr dX10_burrowOf_75 ⟨_, rfl, h⟩
      · have h := h.2 hc_11
        by_cases hc_15 : x2 = (2 : Int32)
        · have h := h.1 hc_15
          refine zm_tableIn (tgt := 76) C dX10_burrowOf_21 (by rw [hc_15]; decide) (by rw [hc_15]; decide) (by rw [hc_15]; rfl) (by decide) ?_
          refine zm_aload_n C dX10_burrowOf_76 rfl 1 rfl ?_
          refine zm_iload_n C dX10_burrowOf_77 rfl 2 rfl ?_
          refine zm_ci (zr_V (As := [.int x1]) (rest := []) C (c_X10_isTrap l g U u_2 W x1 h) wd_1247 wd_1249 wp_41 wd_11 wd_1250 hy_X10_isTrap rfl rfl ⟨by decide, by decide⟩ ⟨by decide, by decide⟩ (ci := 10) (by decide) (zCell_k kd_117) rfl rfl rfl rfl (Nat.le_of_ble_eq_true rfl) dX10_burrowOf_78) (fun r_16 M1 hq => ?_)
          obtain ⟨rfl, h⟩ := hq
          refine zm_if_eq (tgt := 88) C dX10_burrowOf_81 (by decide) (fun hc_18 => ?_) (fun hc_18 => ?_)
          · have h := h.1 hc_18
            refine zm_iconst (v := 0) C dX10_burrowOf_88 (by decide) ?_
            exact zm_iret C hr dX10_burrowOf_89 ⟨_, rfl, h⟩
          · have h := h.2 hc_18
            refine zm_iconst (v := 1) C dX10_burrowOf_84 (by decide) ?_
            refine zm_goto (tgt := 89) C dX10_burrowOf_85 (by decide) ?_
            exact zm_iret C hr dX10_burrowOf_89 ⟨_, rfl, h⟩
        · have h := h.2 hc_15
          by_cases hc_19 : x2 = (3 : Int32)
          · have h := h.1 hc_19
            refine zm_tableIn (tgt := 90) C dX10_burrowOf_21 (by rw [hc_19]; decide) (by rw [hc_19]; decide) (by rw [hc_19]; rfl) (by decide) ?_
            refine zm_sipush (v := 162) C dX10_burrowOf_90 (by decide) ?_
            refine zm_iload_n C dX10_burrowOf_93 rfl 2 rfl ?_
            refine zm_imul C dX10_burrowOf_94 ?_
            refine zm_nmI (fun x4_20 hx4_20 => ?_)
            have h := h x4_20 hx4_20
            refine zm_istore (lv' := [(4, .int x4_20), (3, .int (0 : Int32)), (0, .ref (g.2.2.1 117)), (1, .int x1), (2, .int x2)]) C dX10_burrowOf_95 (by decide) rfl ?_
            obtain ⟨nn, h⟩ := h
            exact zm_sub [2, 3, 1, 0] rfl (vl_X10_burrowOf_97 C hr  nn _ _ _ _ h)
          · have h := h.2 hc_19
            have n0 := lv_neT (a := 0) hc_7 rfl
            have n1 := lv_neT (a := 1) hc_11 rfl
            have n2 := lv_neT (a := 2) hc_15 rfl
            have n3 := lv_neT (a := 3) hc_19 rfl
            refine zm_tableOut (tgt := 138) C dX10_burrowOf_21 (by omega) (by decide) ?_
            refine zm_aload_n C dX10_burrowOf_138 rfl 1 rfl ?_
            refine zm_iconst (v := 2) C dX10_burrowOf_139 (by decide) ?_
            refine zm_ci (zr_V (As := [.int (2 : Int32)]) (rest := []) C (c_X10_raises l g U u_2 W (2 : Int32) h) wd_1204 wd_1206 wp_34 wd_11 wd_1207 hy_X10_raises rfl rfl ⟨by decide, by decide⟩ ⟨by decide, by decide⟩ (ci := 10) (by decide) (zCell_k kd_117) rfl rfl rfl rfl (Nat.le_of_ble_eq_true rfl) dX10_burrowOf_140) (fun r_21 M1 hq => ?_)
            obtain ⟨u_22, rfl, h⟩ := hq
            exact zm_iret C hr dX10_burrowOf_143 ⟨_, rfl, h⟩
  · have h := h.2 hc_5
    refine zm_aload_n C dX10_burrowOf_12 rfl 0 rfl ?_
    refine zm_iconst (v := 1) C dX10_burrowOf_13 (by decide) ?_
    refine zm_ci (zr_V (As := [.int (1 : Int32)]) (rest := []) C (c_X10_raises l g U u_2 W (1 : Int32) h) wd_1204 wd_1206 wp_34 wd_11 wd_1207 hy_X10_raises rfl rfl ⟨by decide, by decide⟩ ⟨by decide, by decide⟩ (ci := 10) (by decide) (zCell_k kd_117) rfl rfl rfl rfl (Nat.le_of_ble_eq_true rfl) dX10_burrowOf_14) (fun r_23 M1 hq => ?_)
    obtain ⟨u_24, rfl, h⟩ := hq
    exact zm_iret C hr dX10_burrowOf_17 ⟨_, rfl, h⟩
abbrev rm_X10_pathOf : Room := { frames := 1, cells := 0, slots := 0, locals := 22 }
def wb_X10_pathOf_51 (Q : Int32 → MU → Prop) (s0 : Int32) (s1 : Int32) (u : MU) : Prop := vp_in (s1 + s0) 119 ∧ (Q (u 118 ((s1 + s0)).toNatClampNeg) u)
set_option maxHeartbeats 4000000 in
set_option maxRecDepth 100000 in
theorem vb_X10_pathOf_51 {p : Program} {l : Launch} {e : Env} {s : State} {m : MethodId} {args : Array Value} {below : List Frame} {meth : Method} {c : Code} {g : GE} {U : MU} {W : (Nat → Int64) × (Nat → UInt64)} {Q : Int32 → MU → Prop} (C : zCx p l s m args meth c g RX10 cX10_pathOf 3) (hr : meth.sig.returnType = (Option.some Jvm.ClassFile.FieldType.int)) (s0 : Int32) (s1 : Int32) (u : MU) (h : wb_X10_pathOf_51   Q s0 s1 u) : WM p l e rm_X10_pathOf s m args below meth c g 3 0 0 (MQ below (zQi g (zPm U W Q)) args s 0 0 (zA g)) 51 [] [.int s0, .int s1, .ref (g.2.2.1 118)] (U, u, W) := by
  unfold wb_X10_pathOf_51 at h
  refine zm_iadd C dX10_pathOf_51 ?_
  obtain ⟨hg_1, h⟩ := h
  refine zq_ld_m C kd_118 ln_118 hg_1 dX10_pathOf_52 ?_
  refine zm_goto (tgt := 57) C dX10_pathOf_53 (by decide) ?_
  exact zm_iret C hr dX10_pathOf_57 ⟨_, rfl, h⟩
def wb_X10_pathOf_22 (Q : Int32 → MU → Prop) (x1 : Int32) (x2 : Int32) (s0 : Int32) (u : MU) : Prop := (∀ u_1, u_1 = u2 u 117 17 s0 → ((¬ (u_1 117 17) = 0) → Q (0 : Int32) u_1) ∧ (((u_1 117 17) = 0) → ((x2 = 0) → wb_X10_pathOf_51   Q (0 : Int32) ((7 : Int32) + ((2 : Int32) * x1)) u_1) ∧ ((¬ x2 = 0) → wb_X10_pathOf_51   Q (1 : Int32) ((7 : Int32) + ((2 : Int32) * x1)) u_1)))
set_option maxHeartbeats 4000000 in
set_option maxRecDepth 100000 in
theorem vb_X10_pathOf_22 {p : Program} {l : Launch} {e : Env} {s : State} {m : MethodId} {args : Array Value} {below : List Frame} {meth : Method} {c : Code} {g : GE} {U : MU} {W : (Nat → Int64) × (Nat → UInt64)} {Q : Int32 → MU → Prop} (C : zCx p l s m args meth c g RX10 cX10_pathOf 3) (hr : meth.sig.returnType = (Option.some Jvm.ClassFile.FieldType.int)) (x1 : Int32) (x2 : Int32) (s0 : Int32) (u : MU) (h : wb_X10_pathOf_22   Q x1 x2 s0 u) : WM p l e rm_X10_pathOf s m args below meth c g 3 0 0 (MQ below (zQi g (zPm U W Q)) args s 0 0 (zA g)) 22 [(0, .ref (g.2.2.1 117)), (1, .int x1), (2, .int x2)] [.int s0, .ref (g.2.2.1 117)] (U, u, W) := by
  unfold wb_X10_pathOf_22 at h
  refine pf_RX10_54 C kd_117  dX10_pathOf_22 (fun u_1 hu_1 => ?_)
  have h := h u_1 hu_1
  refine zm_aload_n C dX10_pathOf_25 rfl 0 rfl ?_
  refine gf_RX10_54 C kd_117 dX10_pathOf_26 ?_
  refine zm_if_ne (tgt := 56) C dX10_pathOf_29 (by decide) (fun hc_2 => ?_) (fun hc_2 => ?_)
  · have h := h.1 hc_2
    refine zm_iconst (v := 0) C dX10_pathOf_56 (by decide) ?_
    exact zm_iret C hr dX10_pathOf_57 ⟨_, rfl, h⟩
  · have h := h.2 hc_2
    refine zm_aload_n C dX10_pathOf_32 rfl 0 rfl ?_
    refine gf_RX10_9 (k1 := 118) C kd_117 rfl dX10_pathOf_33 ?_
    refine zm_bipush (v := 7) C dX10_pathOf_36 (by decide) ?_
    refine zm_iconst (v := 2) C dX10_pathOf_38 (by decide) ?_
    refine zm_iload_n C dX10_pathOf_39 rfl 1 rfl ?_
    refine zm_imul C dX10_pathOf_40 ?_
    refine zm_iadd C dX10_pathOf_41 ?_
    refine zm_iload_n C dX10_pathOf_42 rfl 2 rfl ?_
    refine zm_if_eq (tgt := 50) C dX10_pathOf_43 (by decide) (fun hc_3 => ?_) (fun hc_3 => ?_)
    · have h := h.1 hc_3
      refine zm_iconst (v := 0) C dX10_pathOf_50 (by decide) ?_
      exact zm_sub [] rfl (vb_X10_pathOf_51 C hr  _ _ _ h)
    · have h := h.2 hc_3
      refine zm_iconst (v := 1) C dX10_pathOf_46 (by decide) ?_
      refine zm_goto (tgt := 51) C dX10_pathOf_47 (by decide) ?_
      exact zm_sub [] rfl (vb_X10_pathOf_51 C hr  _ _ _ h)
def w_X10_pathOf (x1 : Int32) (x2 : Int32) (u : MU) (Q : Int32 → MU → Prop) : Prop := vp_in (3 : Int32) 119 ∧ (w_X10_in x1 (0 : Int32) ((u 118 ((3 : Int32)).toNatClampNeg) - (1 : Int32)) (fun r_2 => ((r_2 = 0) → wb_X10_pathOf_22   Q x1 x2 (1 : Int32) u) ∧ ((¬ r_2 = 0) → wb_X10_pathOf_22   Q x1 x2 (0 : Int32) u)))
set_option maxHeartbeats 4000000 in
set_option maxRecDepth 100000 in
theorem c_X10_pathOf (l : Launch) (g : GE) (U : MU) (u : MU) (W : (Nat → Int64) × (Nat → UInt64)) (x1 : Int32) (x2 : Int32) {Q : Int32 → MU → Prop} (h : w_X10_pathOf x1 x2 u Q) : Met l yX10_pathOf (.code yX10_pathOf cX10_pathOf 3 (Option.some Jvm.ClassFile.FieldType.int) :: TB) rm_X10_pathOf (zPc g (U, u, W) [.ref (g.2.2.1 117), .int x1, .int x2]) (zQi g (zPm U W Q)) 0 0 (zA g) := by
  unfold w_X10_pathOf at h
  refine zMet (own := RX10) [(0, .ref (g.2.2.1 117)), (1, .int x1), (2, .int x2)] (by decide +kernel) rfl (Nat.le_of_ble_eq_true rfl) rfl (fun p e s m args below meth c C hr => ?_)
  refine zm_aload_n C dX10_pathOf_0 rfl 0 rfl ?_
  refine zm_iload_n C dX10_pathOf_1 rfl 1 rfl ?_
  refine zm_iconst (v := 0) C dX10_pathOf_2 (by decide) ?_
  refine zm_aload_n C dX10_pathOf_3 rfl 0 rfl ?_
  refine gf_RX10_9 (k1 := 118) C kd_117 rfl dX10_pathOf_4 ?_
  refine zm_iconst (v := 3) C dX10_pathOf_7 (by decide) ?_
  obtain ⟨hg_1, h⟩ := h
  refine zq_ld_m C kd_118 ln_118 hg_1 dX10_pathOf_8 ?_
  refine zm_iconst (v := 1) C dX10_pathOf_9 (by decide) ?_
  refine zm_isub C dX10_pathOf_10 ?_
  refine zm_ci (zr_S (As := [.int x1, .int (0 : Int32), .int ((u 118 ((3 : Int32)).toNatClampNeg) - (1 : Int32))]) (rest := [.ref (g.2.2.1 117)]) C (c_X10_in l g (U, u, W) x1 (0 : Int32) ((u 118 ((3 : Int32)).toNatClampNeg) - (1 : Int32)) h) wd_1224 wd_1225 wd_11 wd_1226 hy_X10_in rfl rfl ⟨by decide, by decide⟩ ⟨by decide, by decide⟩ rfl rfl (Nat.le_of_ble_eq_true rfl) dX10_pathOf_11) (fun r_2 M1 hq => ?_)
  obtain ⟨rfl, h⟩ := hq
  refine zm_if_eq (tgt := 21) C dX10_pathOf_14 (by decide) (fun hc_4 => ?_) (fun hc_4 => ?_)
  · have h := h.1 hc_4
    refine zm_iconst (v := 1) C dX10_pathOf_21 (by decide) ?_
    exact zm_sub [0, 1, 2] rfl (vb_X10_pathOf_22 C hr  _ _ _ _ h)
  · have h := h.2 hc_4
    refine zm_iconst (v := 0) C dX10_pathOf_17 (by decide) ?_
    refine zm_goto (tgt := 22) C dX10_pathOf_18 (by decide) ?_
    exact zm_sub [0, 1, 2] rfl (vb_X10_pathOf_22 C hr  _ _ _ _ h)
abbrev rm_X10_now : Room := { frames := 0, cells := 0, slots := 0, locals := 0 }
def wb_X10_now_15 (Q : Int32 → MU → Prop) (s0 : Int32) (u : MU) : Prop := (∀ u_1, u_1 = u2 u 117 17 s0 → ((¬ (u_1 117 17) = 0) → Q (0 : Int32) u_1) ∧ (((u_1 117 17) = 0) → vp_in (4 : Int32) 119 ∧ (Q ((u_1 118 ((4 : Int32)).toNatClampNeg) - (1 : Int32)) u_1)))
set_option maxHeartbeats 4000000 in
set_option maxRecDepth 100000 in
theorem vb_X10_now_15 {p : Program} {l : Launch} {e : Env} {s : State} {m : MethodId} {args : Array Value} {below : List Frame} {meth : Method} {c : Code} {g : GE} {U : MU} {W : (Nat → Int64) × (Nat → UInt64)} {Q : Int32 → MU → Prop} (C : zCx p l s m args meth c g RX10 cX10_now 1) (hr : meth.sig.returnType = (Option.some Jvm.ClassFile.FieldType.int)) (s0 : Int32) (u : MU) (h : wb_X10_now_15   Q s0 u) : WM p l e rm_X10_now s m args below meth c g 1 0 0 (MQ below (zQi g (zPm U W Q)) args s 0 0 (zA g)) 15 [(0, .ref (g.2.2.1 117))] [.int s0, .ref (g.2.2.1 117)] (U, u, W) := by
  unfold wb_X10_now_15 at h
  refine pf_RX10_54 C kd_117  dX10_now_15 (fun u_1 hu_1 => ?_)
  have h := h u_1 hu_1
  refine zm_aload_n C dX10_now_18 rfl 0 rfl ?_
  refine gf_RX10_54 C kd_117 dX10_now_19 ?_
  refine zm_if_ne (tgt := 36) C dX10_now_22 (by decide) (fun hc_2 => ?_) (fun hc_2 => ?_)
  · have h := h.1 hc_2
    refine zm_iconst (v := 0) C dX10_now_36 (by decide) ?_
    exact zm_iret C hr dX10_now_37 ⟨_, rfl, h⟩
  · have h := h.2 hc_2
    refine zm_aload_n C dX10_now_25 rfl 0 rfl ?_
    refine gf_RX10_9 (k1 := 118) C kd_117 rfl dX10_now_26 ?_
    refine zm_iconst (v := 4) C dX10_now_29 (by decide) ?_
    obtain ⟨hg_3, h⟩ := h
    refine zq_ld_m C kd_118 ln_118 hg_3 dX10_now_30 ?_
    refine zm_iconst (v := 1) C dX10_now_31 (by decide) ?_
    refine zm_isub C dX10_now_32 ?_
    refine zm_goto (tgt := 37) C dX10_now_33 (by decide) ?_
    exact zm_iret C hr dX10_now_37 ⟨_, rfl, h⟩
def w_X10_now (u : MU) (Q : Int32 → MU → Prop) : Prop := vp_in (4 : Int32) 119 ∧ (((¬ (u 118 ((4 : Int32)).toNatClampNeg) = 0) → wb_X10_now_15   Q (0 : Int32) u) ∧ (((u 118 ((4 : Int32)).toNatClampNeg) = 0) → wb_X10_now_15   Q (1 : Int32) u))
set_option maxHeartbeats 4000000 in
set_option maxRecDepth 100000 in
theorem c_X10_now (l : Launch) (g : GE) (U : MU) (u : MU) (W : (Nat → Int64) × (Nat → UInt64)) {Q : Int32 → MU → Prop} (h : w_X10_now u Q) : Met l yX10_now (.code yX10_now cX10_now 1 (Option.some Jvm.ClassFile.FieldType.int) :: TB) rm_X10_now (zPc g (U, u, W) [.ref (g.2.2.1 117)]) (zQi g (zPm U W Q)) 0 0 (zA g) := by
  unfold w_X10_now at h
  refine zMet (own := RX10) [(0, .ref (g.2.2.1 117))] (by decide +kernel) rfl (Nat.le_of_ble_eq_true rfl) rfl (fun p e s m args below meth c C hr => ?_)
  refine zm_aload_n C dX10_now_0 rfl 0 rfl ?_
  refine zm_aload_n C dX10_now_1 rfl 0 rfl ?_
  refine gf_RX10_9 (k1 := 118) C kd_117 rfl dX10_now_2 ?_
  refine zm_iconst (v := 4) C dX10_now_5 (by decide) ?_
  obtain ⟨hg_1, h⟩ := h
  refine zq_ld_m C kd_118 ln_118 hg_1 dX10_now_6 ?_
  refine zm_if_ne (tgt := 14) C dX10_now_7 (by decide) (fun hc_2 => ?_) (fun hc_2 => ?_)
  · have h := h.1 hc_2
    refine zm_iconst (v := 0) C dX10_now_14 (by decide) ?_
    exact zm_sub [0] rfl (vb_X10_now_15 C hr  _ _ h)
  · have h := h.2 hc_2
    refine zm_iconst (v := 1) C dX10_now_10 (by decide) ?_
    refine zm_goto (tgt := 15) C dX10_now_11 (by decide) ?_
    exact zm_sub [0] rfl (vb_X10_now_15 C hr  _ _ h)
abbrev rm_X10_append : Room := { frames := 1, cells := 0, slots := 0, locals := 21 }
def w_X10_append (x1 : Int32) (u : MU) (Q : Int32 → MU → Prop) : Prop := (∀ u_1, u_1 = u2 u 117 17 (0 : Int32) → ((¬ (u_1 117 9) = (60 : Int32)) → (∀ u_3, u_3 = u2 u_1 117 9 ((u_1 117 9) + (1 : Int32)) → vp_in (u_1 117 9) 60 ∧ (∀ u_5, u_5 = u2 u_3 123 ((u_1 117 9)).toNatClampNeg (vp_nar .char x1) → Q (u_5 117 9) u_5))) ∧ (((u_1 117 9) = (60 : Int32)) → w_X10_raises (1 : Int32) u_1 (fun r_6 u_7 => Q r_6 u_7)))
set_option maxHeartbeats 4000000 in
set_option maxRecDepth 100000 in
theorem c_X10_append (l : Launch) (g : GE) (U : MU) (u : MU) (W : (Nat → Int64) × (Nat → UInt64)) (x1 : Int32) {Q : Int32 → MU → Prop} (h : w_X10_append x1 u Q) : Met l yX10_append (.code yX10_append cX10_append 2 (Option.some Jvm.ClassFile.FieldType.int) :: TB) rm_X10_append (zPc g (U, u, W) [.ref (g.2.2.1 117), .int x1]) (zQi g (zPm U W Q)) 0 0 (zA g) := by
  unfold w_X10_append at h
  refine zMet (own := RX10) [(0, .ref (g.2.2.1 117)), (1, .int x1)] (by decide +kernel) rfl (Nat.le_of_ble_eq_true rfl) rfl (fun p e s m args below meth c C hr => ?_)
  refine zm_aload_n C dX10_append_0 rfl 0 rfl ?_
  refine zm_iconst (v := 0) C dX10_append_1 (by decide) ?_
  refine pf_RX10_54 C kd_117  dX10_append_2 (fun u_1 hu_1 => ?_)
  have h := h u_1 hu_1
  refine zm_aload_n C dX10_append_5 rfl 0 rfl ?_
  refine gf_RX10_204 C kd_117 dX10_append_6 ?_
  refine zm_bipush (v := 60) C dX10_append_9 (by decide) ?_
  refine zm_icmp_ne (tgt := 20) C dX10_append_11 (by decide) (fun hc_2 => ?_) (fun hc_2 => ?_)
  · have h := h.1 hc_2
    refine zm_aload_n C dX10_append_20 rfl 0 rfl ?_
    refine gf_RX10_26 (k1 := 123) C kd_117 rfl dX10_append_21 ?_
    refine zm_aload_n C dX10_append_24 rfl 0 rfl ?_
    refine zm_dup C dX10_append_25 rfl ?_
    refine gf_RX10_204 C kd_117 dX10_append_26 ?_
    refine zm_dup_x1 C dX10_append_29 rfl rfl ?_
    refine zm_iconst (v := 1) C dX10_append_30 (by decide) ?_
    refine zm_iadd C dX10_append_31 ?_
    refine pf_RX10_204 C kd_117  dX10_append_32 (fun u_3 hu_3 => ?_)
    have h := h u_3 hu_3
    refine zm_iload_n C dX10_append_35 rfl 1 rfl ?_
    obtain ⟨hg_4, h⟩ := h
    refine zq_st_mc C kd_123 ln_123 hg_4 dX10_append_36 (fun u_5 hu_5 => ?_)
    have h := h u_5 hu_5
    refine zm_aload_n C dX10_append_37 rfl 0 rfl ?_
    refine gf_RX10_204 C kd_117 dX10_append_38 ?_
    exact zm_iret C hr dX10_append_41 ⟨_, rfl, h⟩
  · have h := h.2 hc_2
    refine zm_aload_n C dX10_append_14 rfl 0 rfl ?_
    refine zm_iconst (v := 1) C dX10_append_15 (by decide) ?_
    refine zm_ci (zr_V (As := [.int (1 : Int32)]) (rest := []) C (c_X10_raises l g U u_1 W (1 : Int32) h) wd_1204 wd_1206 wp_34 wd_11 wd_1207 hy_X10_raises rfl rfl ⟨by decide, by decide⟩ ⟨by decide, by decide⟩ (ci := 10) (by decide) (zCell_k kd_117) rfl rfl rfl rfl (Nat.le_of_ble_eq_true rfl) dX10_append_16) (fun r_6 M1 hq => ?_)
    obtain ⟨u_7, rfl, h⟩ := hq
    exact zm_iret C hr dX10_append_19 ⟨_, rfl, h⟩
abbrev rm_X10_takes : Room := { frames := 0, cells := 0, slots := 0, locals := 0 }
def w_X10_takes (x1 : Int32) (u : MU) (Q : Int32 → MU → Prop) : Prop := (((u 117 10) = (u 117 9)) → Q (0 : Int32) u) ∧ ((¬ (u 117 10) = (u 117 9)) → vp_in (u 117 10) 60 ∧ ((((u 123 ((u 117 10)).toNatClampNeg) = x1) → (∀ u_4, u_4 = u2 u 117 10 ((u 117 10) + (1 : Int32)) → Q (1 : Int32) u_4)) ∧ ((¬ (u 123 ((u 117 10)).toNatClampNeg) = x1) → Q (0 : Int32) u)))
set_option maxHeartbeats 4000000 in
set_option maxRecDepth 100000 in
theorem c_X10_takes (l : Launch) (g : GE) (U : MU) (u : MU) (W : (Nat → Int64) × (Nat → UInt64)) (x1 : Int32) {Q : Int32 → MU → Prop} (h : w_X10_takes x1 u Q) : Met l yX10_takes (.code yX10_takes cX10_takes 2 (Option.some Jvm.ClassFile.FieldType.boolean) :: TB) rm_X10_takes (zPc g (U, u, W) [.ref (g.2.2.1 117), .int x1]) (zQi g (zPm U W Q)) 0 0 (zA g) := by
  unfold w_X10_takes at h
  refine zMet (own := RX10) [(0, .ref (g.2.2.1 117)), (1, .int x1)] (by decide +kernel) rfl (Nat.le_of_ble_eq_true rfl) rfl (fun p e s m args below meth c C hr => ?_)
  refine zm_aload_n C dX10_takes_0 rfl 0 rfl ?_
  refine gf_RX10_207 C kd_117 dX10_takes_1 ?_
  refine zm_aload_n C dX10_takes_4 rfl 0 rfl ?_
  refine gf_RX10_204 C kd_117 dX10_takes_5 ?_
  refine zm_icmp_eq (tgt := 24) C dX10_takes_8 (by decide) (fun hc_1 => ?_) (fun hc_1 => ?_)
  · have h := h.1 hc_1
    refine zm_iconst (v := 0) C dX10_takes_24 (by decide) ?_
    exact zm_zret (ty := .boolean) C hr (by decide) dX10_takes_25 ⟨_, rfl, h⟩
  · have h := h.2 hc_1
    refine zm_aload_n C dX10_takes_11 rfl 0 rfl ?_
    refine gf_RX10_26 (k1 := 123) C kd_117 rfl dX10_takes_12 ?_
    refine zm_aload_n C dX10_takes_15 rfl 0 rfl ?_
    refine gf_RX10_207 C kd_117 dX10_takes_16 ?_
    obtain ⟨hg_2, h⟩ := h
    refine zq_ld_mc C kd_123 ln_123 hg_2 dX10_takes_19 ?_
    refine zm_iload_n C dX10_takes_20 rfl 1 rfl ?_
    refine zm_icmp_eq (tgt := 26) C dX10_takes_21 (by decide) (fun hc_3 => ?_) (fun hc_3 => ?_)
    · have h := h.1 hc_3
      refine zm_aload_n C dX10_takes_26 rfl 0 rfl ?_
      refine zm_dup C dX10_takes_27 rfl ?_
      refine gf_RX10_207 C kd_117 dX10_takes_28 ?_
      refine zm_iconst (v := 1) C dX10_takes_31 (by decide) ?_
      refine zm_iadd C dX10_takes_32 ?_
      refine pf_RX10_207 C kd_117  dX10_takes_33 (fun u_4 hu_4 => ?_)
      have h := h u_4 hu_4
      refine zm_iconst (v := 1) C dX10_takes_36 (by decide) ?_
      exact zm_zret (ty := .boolean) C hr (by decide) dX10_takes_37 ⟨_, rfl, h⟩
    · have h := h.2 hc_3
      refine zm_iconst (v := 0) C dX10_takes_24 (by decide) ?_
      exact zm_zret (ty := .boolean) C hr (by decide) dX10_takes_25 ⟨_, rfl, h⟩
abbrev rm_X10_digits : Room := { frames := 1, cells := 0, slots := 0, locals := 22 }
def wb_X10_digits_85 (Q : Int32 → MU → Prop) (x3 : Int32) (u : MU) : Prop := ((x3 ≤ 0) → Q (0 : Int32) u) ∧ ((¬ x3 ≤ 0) → Q (1 : Int32) u)
set_option maxHeartbeats 4000000 in
set_option maxRecDepth 100000 in
theorem vb_X10_digits_85 {p : Program} {l : Launch} {e : Env} {s : State} {m : MethodId} {args : Array Value} {below : List Frame} {meth : Method} {c : Code} {g : GE} {U : MU} {W : (Nat → Int64) × (Nat → UInt64)} {Q : Int32 → MU → Prop} (C : zCx p l s m args meth c g RX10 cX10_digits 4) (hr : meth.sig.returnType = (Option.some Jvm.ClassFile.FieldType.boolean)) (x3 : Int32) (u : MU) (h : wb_X10_digits_85   Q x3 u) : WM p l e rm_X10_digits s m args below meth c g 4 0 0 (MQ below (zQi g (zPm U W Q)) args s 0 0 (zA g)) 85 [(3, .int x3)] [] (U, u, W) := by
  unfold wb_X10_digits_85 at h
  refine zm_iload_n C dX10_digits_85 rfl 0 rfl ?_
  refine zm_if_le (tgt := 93) C dX10_digits_86 (by decide) (fun hc_1 => ?_) (fun hc_1 => ?_)
  · have h := h.1 hc_1
    refine zm_iconst (v := 0) C dX10_digits_93 (by decide) ?_
    exact zm_zret (ty := .boolean) C hr (by decide) dX10_digits_94 ⟨_, rfl, h⟩
  · have h := h.2 hc_1
    refine zm_iconst (v := 1) C dX10_digits_89 (by decide) ?_
    refine zm_goto (tgt := 94) C dX10_digits_90 (by decide) ?_
    exact zm_zret (ty := .boolean) C hr (by decide) dX10_digits_94 ⟨_, rfl, h⟩
def wl_X10_digits_9 (Q : Int32 → MU → Prop) : Nat → Int32 → Int32 → Int32 → MU → Prop
  | 0, _, _, _, _ => False
  | n + 1, x1, x2, x3, u => ((x2 ≤ x3) → wb_X10_digits_85   Q x3 u) ∧ ((¬ x2 ≤ x3) → (((u 117 9) ≤ (u 117 10)) → wb_X10_digits_85   Q x3 u) ∧ ((¬ (u 117 9) ≤ (u 117 10)) → vp_in (u 117 10) 60 ∧ (w_X10_in (u 123 ((u 117 10)).toNatClampNeg) (48 : Int32) (57 : Int32) (fun r_4 => ((r_4 = 0) → wb_X10_digits_85   Q x3 u) ∧ ((¬ r_4 = 0) → vp_in x1 2 ∧ ((∀ u_8, u_8 = u2 u 117 10 ((u 117 10) + (1 : Int32)) → vp_in (u 117 10) 60 ∧ (vp_in x1 2 ∧ (∀ u_11, u_11 = u2 u_8 124 (x1).toNatClampNeg ((((10 : Int32) * (u 124 (x1).toNatClampNeg)) + (u_8 123 ((u 117 10)).toNatClampNeg)) - (48 : Int32)) → ∀ x3_12, x3_12 = x3 + (1 : Int32) → wl_X10_digits_9   Q n x1 x2 x3_12 u_11)))))))))
set_option maxHeartbeats 4000000 in
set_option maxRecDepth 100000 in
theorem vl_X10_digits_9 {p : Program} {l : Launch} {e : Env} {s : State} {m : MethodId} {args : Array Value} {below : List Frame} {meth : Method} {c : Code} {g : GE} {U : MU} {W : (Nat → Int64) × (Nat → UInt64)} {Q : Int32 → MU → Prop} (C : zCx p l s m args meth c g RX10 cX10_digits 4) (hr : meth.sig.returnType = (Option.some Jvm.ClassFile.FieldType.boolean)) : ∀ (n : Nat) (x1 : Int32) (x2 : Int32) (x3 : Int32) (u : MU) , wl_X10_digits_9   Q n x1 x2 x3 u → WM p l e rm_X10_digits s m args below meth c g 4 0 0 (MQ below (zQi g (zPm U W Q)) args s 0 0 (zA g)) 9 [(0, .ref (g.2.2.1 117)), (1, .int x1), (2, .int x2), (3, .int x3)] [] (U, u, W) := by
  intro n
  induction n with
  | zero => intro _ _ _ _ h; exact h.elim
  | succ n ih =>
    intro x1 x2 x3 u h
    unfold wl_X10_digits_9 at h
    refine zm_iload_n C dX10_digits_9 rfl 3 rfl ?_
    refine zm_iload_n C dX10_digits_10 rfl 2 rfl ?_
    refine zm_icmp_ge (tgt := 85) C dX10_digits_11 (by decide) (fun hc_1 => ?_) (fun hc_1 => ?_)
    · have h := h.1 hc_1
      exact zm_sub [3] rfl (vb_X10_digits_85 C hr  _ _ h)
    · have h := h.2 hc_1
      refine zm_aload_n C dX10_digits_14 rfl 0 rfl ?_
      refine gf_RX10_207 C kd_117 dX10_digits_15 ?_
      refine zm_aload_n C dX10_digits_18 rfl 0 rfl ?_
      refine gf_RX10_204 C kd_117 dX10_digits_19 ?_
      refine zm_icmp_ge (tgt := 85) C dX10_digits_22 (by decide) (fun hc_2 => ?_) (fun hc_2 => ?_)
      · have h := h.1 hc_2
        exact zm_sub [3] rfl (vb_X10_digits_85 C hr  _ _ h)
      · have h := h.2 hc_2
        refine zm_aload_n C dX10_digits_25 rfl 0 rfl ?_
        refine gf_RX10_26 (k1 := 123) C kd_117 rfl dX10_digits_26 ?_
        refine zm_aload_n C dX10_digits_29 rfl 0 rfl ?_
        refine gf_RX10_207 C kd_117 dX10_digits_30 ?_
        obtain ⟨hg_3, h⟩ := h
        refine zq_ld_mc C kd_123 ln_123 hg_3 dX10_digits_33 ?_
        refine zm_bipush (v := 48) C dX10_digits_34 (by decide) ?_
        refine zm_bipush (v := 57) C dX10_digits_36 (by decide) ?_
        refine zm_ci (zr_S (As := [.int (u 123 ((u 117 10)).toNatClampNeg), .int (48 : Int32), .int (57 : Int32)]) (rest := []) C (c_X10_in l g (U, u, W) (u 123 ((u 117 10)).toNatClampNeg) (48 : Int32) (57 : Int32) h) wd_1224 wd_1225 wd_11 wd_1226 hy_X10_in rfl rfl ⟨by decide, by decide⟩ ⟨by decide, by decide⟩ rfl rfl (Nat.le_of_ble_eq_true rfl) dX10_digits_38) (fun r_4 M1 hq => ?_)
        obtain ⟨rfl, h⟩ := hq
        refine zm_if_eq (tgt := 85) C dX10_digits_41 (by decide) (fun hc_6 => ?_) (fun hc_6 => ?_)
        · have h := h.1 hc_6
          exact zm_sub [3] rfl (vb_X10_digits_85 C hr  _ _ h)
        · have h := h.2 hc_6
          refine zm_aload_n C dX10_digits_44 rfl 0 rfl ?_
          refine gf_RX10_29 (k1 := 124) C kd_117 rfl dX10_digits_45 ?_
          refine zm_iload_n C dX10_digits_48 rfl 1 rfl ?_
          refine zm_bipush (v := 10) C dX10_digits_49 (by decide) ?_
          refine zm_aload_n C dX10_digits_51 rfl 0 rfl ?_
          refine gf_RX10_29 (k1 := 124) C kd_117 rfl dX10_digits_52 ?_
          refine zm_iload_n C dX10_digits_55 rfl 1 rfl ?_
          obtain ⟨hg_7, h⟩ := h
          refine zq_ld_m C kd_124 ln_124 hg_7 dX10_digits_56 ?_
          refine zm_imul C dX10_digits_57 ?_
          refine zm_aload_n C dX10_digits_58 rfl 0 rfl ?_
          refine gf_RX10_26 (k1 := 123) C kd_117 rfl dX10_digits_59 ?_
          refine zm_aload_n C dX10_digits_62 rfl 0 rfl ?_
          refine zm_dup C dX10_digits_63 rfl ?_
          refine gf_RX10_207 C kd_117 dX10_digits_64 ?_
          refine zm_dup_x1 C dX10_digits_67 rfl rfl ?_
          refine zm_iconst (v := 1) C dX10_digits_68 (by decide) ?_
          refine zm_iadd C dX10_digits_69 ?_
          refine pf_RX10_207 C kd_117  dX10_digits_70 (fun u_8 hu_8 => ?_)
          have h := h u_8 hu_8
          obtain ⟨hg_9, h⟩ := h
          refine zq_ld_mc C kd_123 ln_123 hg_9 dX10_digits_73 ?_
          refine zm_iadd C dX10_digits_74 ?_
          refine zm_bipush (v := 48) C dX10_digits_75 (by decide) ?_
          refine zm_isub C dX10_digits_77 ?_
          obtain ⟨hg_10, h⟩ := h
          refine zq_st_m C kd_124 ln_124 hg_10 dX10_digits_78 (fun u_11 hu_11 => ?_)
          have h := h u_11 hu_11
          obtain ⟨x3_12, hx3_12⟩ : ∃ z, z = x3 + (1 : Int32) := ⟨_, rfl⟩
          have h := h x3_12 hx3_12
          refine zm_iinc (v := x3_12) (lv' := [(3, .int x3_12), (0, .ref (g.2.2.1 117)), (1, .int x1), (2, .int x2)]) C dX10_digits_79 3 rfl (by rw [hx3_12]; rfl) (by decide) rfl ?_
          refine zm_goto (tgt := 9) C dX10_digits_82 (by decide) ?_
          exact zm_sub [1, 2, 3, 0] rfl (ih _ _ _ _ h)
def w_X10_digits (x1 : Int32) (x2 : Int32) (u : MU) (Q : Int32 → MU → Prop) : Prop := vp_in x1 2 ∧ (∀ u_2, u_2 = u2 u 124 (x1).toNatClampNeg (0 : Int32) → ∃ nn, wl_X10_digits_9   Q nn x1 x2 (0 : Int32) u_2)
set_option maxHeartbeats 4000000 in
set_option maxRecDepth 100000 in
theorem c_X10_digits (l : Launch) (g : GE) (U : MU) (u : MU) (W : (Nat → Int64) × (Nat → UInt64)) (x1 : Int32) (x2 : Int32) {Q : Int32 → MU → Prop} (h : w_X10_digits x1 x2 u Q) : Met l yX10_digits (.code yX10_digits cX10_digits 4 (Option.some Jvm.ClassFile.FieldType.boolean) :: TB) rm_X10_digits (zPc g (U, u, W) [.ref (g.2.2.1 117), .int x1, .int x2]) (zQi g (zPm U W Q)) 0 0 (zA g) := by
  unfold w_X10_digits at h
  refine zMet (own := RX10) [(0, .ref (g.2.2.1 117)), (1, .int x1), (2, .int x2)] (by decide +kernel) rfl (Nat.le_of_ble_eq_true rfl) rfl (fun p e s m args below meth c C hr => ?_)
  refine zm_iconst (v := 0) C dX10_digits_0 (by decide) ?_
  refine zm_istore_n (lv' := [(3, .int (0 : Int32)), (0, .ref (g.2.2.1 117)), (1, .int x1), (2, .int x2)]) C dX10_digits_1 rfl (by decide) rfl ?_
  refine zm_aload_n C dX10_digits_2 rfl 1 rfl ?_
  refine gf_RX10_29 (k1 := 124) C kd_117 rfl dX10_digits_3 ?_
  refine zm_iload_n C dX10_digits_6 rfl 2 rfl ?_
  refine zm_iconst (v := 0) C dX10_digits_7 (by decide) ?_
  obtain ⟨hg_1, h⟩ := h
  refine zq_st_m C kd_124 ln_124 hg_1 dX10_digits_8 (fun u_2 hu_2 => ?_)
  have h := h u_2 hu_2
  obtain ⟨nn, h⟩ := h
  exact zm_sub [1, 2, 3, 0] rfl (vl_X10_digits_9 C hr  nn _ _ _ _ h)
