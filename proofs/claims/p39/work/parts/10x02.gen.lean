abbrev rm_X9_addPath : Room := { frames := 3, cells := 0, slots := 0, locals := 66 }
def w_X9_addPath (x1 : Int32) (x2 : Int32) (u : MU) (Q : Int32 → MU → Prop) : Prop := w_X9_isRefusedFor x1 u (fun r_1 u_2 => ((¬ r_1 = 0) → Q (-1 : Int32) u_2) ∧ ((r_1 = 0) → w_X9_isRefusedFor x2 u_2 (fun r_4 u_5 => ((r_4 = 0) → ((¬ x1 = x2) → w_X1_pathBetween 2 u_5 x1 x2 (fun r_8 => ((r_8 = (-1 : Int32)) → (((u_5 2 1) < (16 : Int32)) → w_X1_join 2 x1 x2 u_5 (fun u_13 => w_X9_markChanged  u_13 (fun u_15 => Q ((u_15 2 1) - (1 : Int32)) u_15))) ∧ ((¬ (u_5 2 1) < (16 : Int32)) → w_X9_refused (2 : Int32) (16 : Int32) u_5 (fun r_16 u_17 => Q r_16 u_17))) ∧ ((¬ r_8 = (-1 : Int32)) → w_X9_refused (5 : Int32) (0 : Int32) u_5 (fun r_18 u_19 => Q r_18 u_19)))) ∧ ((x1 = x2) → w_X9_refused (4 : Int32) x1 u_5 (fun r_20 u_21 => Q r_20 u_21))) ∧ ((¬ r_4 = 0) → Q (-1 : Int32) u_5))))
set_option maxHeartbeats 4000000 in
set_option maxRecDepth 100000 in
theorem c_X9_addPath (l : Launch) (g : GE) (u : MU) (W : MU × ((Nat → Int64) × (Nat → UInt64))) (x1 : Int32) (x2 : Int32) {Q : Int32 → MU → Prop} (h : w_X9_addPath x1 x2 u Q) : Met l yX9_addPath (.code yX9_addPath cX9_addPath 4 (Option.some Jvm.ClassFile.FieldType.int) :: TB) rm_X9_addPath (zPc g (u, W) [.ref (g.2.2.1 0), .int x1, .int x2]) (zQi g (zPx W Q)) 0 0 (zA g) := by
  unfold w_X9_addPath at h
  refine zMet (own := RX9) [(0, .ref (g.2.2.1 0)), (1, .int x1), (2, .int x2)] (by decide +kernel) rfl (Nat.le_of_ble_eq_true rfl) rfl (fun p e s m args below meth c C hr => ?_)
  refine zm_aload_n C dX9_addPath_0 rfl 0 rfl ?_
  refine gf_RX9_10 (k1 := 1) C kd_0 rfl dX9_addPath_1 ?_
  refine gf_RX9_138 (k1 := 2) C kd_1 rfl dX9_addPath_4 ?_
  refine zm_astore_n (lv' := [(3, .ref (g.2.2.1 2)), (0, .ref (g.2.2.1 0)), (1, .int x1), (2, .int x2)]) C dX9_addPath_7 rfl (by decide) rfl ?_
  refine zm_aload_n C dX9_addPath_8 rfl 1 rfl ?_
  refine zm_iload_n C dX9_addPath_9 rfl 2 rfl ?_
  refine zm_ci (zr_V (As := [.int x1]) (rest := []) C (c_X9_isRefusedFor l g u W x1 h) wd_460 wd_462 wp_9 wd_1 wd_463 hy_X9_isRefusedFor rfl rfl ⟨by decide, by decide⟩ ⟨by decide, by decide⟩ (ci := 9) (by decide) (zCell_k kd_0) rfl rfl rfl rfl (Nat.le_of_ble_eq_true rfl) dX9_addPath_10) (fun r_1 M1 hq => ?_)
  obtain ⟨u_2, rfl, h⟩ := hq
  refine zm_if_ne (tgt := 24) C dX9_addPath_13 (by decide) (fun hc_3 => ?_) (fun hc_3 => ?_)
  · have h := h.1 hc_3
    refine zm_iconst (v := -1) C dX9_addPath_24 (by decide) ?_
    exact zm_iret C hr dX9_addPath_25 ⟨_, rfl, h⟩
  · have h := h.2 hc_3
    refine zm_aload_n C dX9_addPath_16 rfl 1 rfl ?_
    refine zm_iload_n C dX9_addPath_17 rfl 3 rfl ?_
    refine zm_ci (zr_V (As := [.int x2]) (rest := []) C (c_X9_isRefusedFor l g u_2 W x2 h) wd_460 wd_462 wp_9 wd_1 wd_463 hy_X9_isRefusedFor rfl rfl ⟨by decide, by decide⟩ ⟨by decide, by decide⟩ (ci := 9) (by decide) (zCell_k kd_0) rfl rfl rfl rfl (Nat.le_of_ble_eq_true rfl) dX9_addPath_18) (fun r_4 M1 hq => ?_)
    obtain ⟨u_5, rfl, h⟩ := hq
    refine zm_if_eq (tgt := 26) C dX9_addPath_21 (by decide) (fun hc_6 => ?_) (fun hc_6 => ?_)
    · have h := h.1 hc_6
      refine zm_iload_n C dX9_addPath_26 rfl 2 rfl ?_
      refine zm_iload_n C dX9_addPath_27 rfl 3 rfl ?_
      refine zm_icmp_ne (tgt := 38) C dX9_addPath_28 (by decide) (fun hc_7 => ?_) (fun hc_7 => ?_)
      · have h := h.1 hc_7
        refine zm_aload_n C dX9_addPath_38 rfl 0 rfl ?_
        refine zm_iload_n C dX9_addPath_39 rfl 2 rfl ?_
        refine zm_iload_n C dX9_addPath_40 rfl 3 rfl ?_
        refine zm_ci (zr_V (As := [.int x1, .int x2]) (rest := []) C (c_X1_pathBetween l g u_5 W 2 kd_2 x1 x2 h) wd_468 wd_469 wd_470 wd_3 wd_471 hy_X1_pathBetween rfl rfl ⟨by decide, by decide⟩ ⟨by decide, by decide⟩ (ci := 1) (by decide) (zCell_k kd_2) rfl rfl rfl rfl (Nat.le_of_ble_eq_true rfl) dX9_addPath_41) (fun r_8 M1 hq => ?_)
        obtain ⟨rfl, h⟩ := hq
        refine zm_iconst (v := -1) C dX9_addPath_44 (by decide) ?_
        refine zm_icmp_eq (tgt := 55) C dX9_addPath_45 (by decide) (fun hc_10 => ?_) (fun hc_10 => ?_)
        · have h := h.1 hc_10
          refine zm_aload_n C dX9_addPath_55 rfl 0 rfl ?_
          refine gf_RX9_299 C kd_2 dX9_addPath_56 ?_
          refine zm_bipush (v := 16) C dX9_addPath_59 (by decide) ?_
          refine zm_icmp_lt (tgt := 72) C dX9_addPath_61 (by decide) (fun hc_11 => ?_) (fun hc_11 => ?_)
          · have h := h.1 hc_11
            refine zm_aload_n C dX9_addPath_72 rfl 0 rfl ?_
            refine zm_iload_n C dX9_addPath_73 rfl 2 rfl ?_
            refine zm_iload_n C dX9_addPath_74 rfl 3 rfl ?_
            refine zm_cv (zr_V (As := [.int x1, .int x2]) (rest := []) C (c_X1_join l g u_5 W 2 kd_2 x1 x2 h) wd_475 wd_476 wd_477 wd_3 wd_478 hy_X1_join rfl rfl ⟨by decide, by decide⟩ ⟨by decide, by decide⟩ (ci := 1) (by decide) (zCell_k kd_2) rfl rfl rfl rfl (Nat.le_of_ble_eq_true rfl) dX9_addPath_75) (fun M1 hq => ?_)
            obtain ⟨u_13, rfl, h⟩ := hq
            refine zm_aload_n C dX9_addPath_78 rfl 1 rfl ?_
            refine zm_cv (zr_V (As := []) (rest := []) C (c_X9_markChanged l g u_13 W  h) wd_355 wd_357 wp_3 wd_1 wd_358 hy_X9_markChanged rfl rfl ⟨by decide, by decide⟩ ⟨by decide, by decide⟩ (ci := 9) (by decide) (zCell_k kd_0) rfl rfl rfl rfl (Nat.le_of_ble_eq_true rfl) dX9_addPath_79) (fun M1 hq => ?_)
            obtain ⟨u_15, rfl, h⟩ := hq
            refine zm_aload_n C dX9_addPath_82 rfl 0 rfl ?_
            refine gf_RX9_299 C kd_2 dX9_addPath_83 ?_
            refine zm_iconst (v := 1) C dX9_addPath_86 (by decide) ?_
            refine zm_isub C dX9_addPath_87 ?_
            exact zm_iret C hr dX9_addPath_88 ⟨_, rfl, h⟩
          · have h := h.2 hc_11
            refine zm_aload_n C dX9_addPath_64 rfl 1 rfl ?_
            refine zm_iconst (v := 2) C dX9_addPath_65 (by decide) ?_
            refine zm_bipush (v := 16) C dX9_addPath_66 (by decide) ?_
            refine zm_ci (zr_V (As := [.int (2 : Int32), .int (16 : Int32)]) (rest := []) C (c_X9_refused l g u_5 W (2 : Int32) (16 : Int32) h) wd_351 wd_353 wp_2 wd_1 wd_354 hy_X9_refused rfl rfl ⟨by decide, by decide⟩ ⟨by decide, by decide⟩ (ci := 9) (by decide) (zCell_k kd_0) rfl rfl rfl rfl (Nat.le_of_ble_eq_true rfl) dX9_addPath_68) (fun r_16 M1 hq => ?_)
            obtain ⟨u_17, rfl, h⟩ := hq
            exact zm_iret C hr dX9_addPath_71 ⟨_, rfl, h⟩
        · have h := h.2 hc_10
          refine zm_aload_n C dX9_addPath_48 rfl 1 rfl ?_
          refine zm_iconst (v := 5) C dX9_addPath_49 (by decide) ?_
          refine zm_iconst (v := 0) C dX9_addPath_50 (by decide) ?_
          refine zm_ci (zr_V (As := [.int (5 : Int32), .int (0 : Int32)]) (rest := []) C (c_X9_refused l g u_5 W (5 : Int32) (0 : Int32) h) wd_351 wd_353 wp_2 wd_1 wd_354 hy_X9_refused rfl rfl ⟨by decide, by decide⟩ ⟨by decide, by decide⟩ (ci := 9) (by decide) (zCell_k kd_0) rfl rfl rfl rfl (Nat.le_of_ble_eq_true rfl) dX9_addPath_51) (fun r_18 M1 hq => ?_)
          obtain ⟨u_19, rfl, h⟩ := hq
          exact zm_iret C hr dX9_addPath_54 ⟨_, rfl, h⟩
      · have h := h.2 hc_7
        refine zm_aload_n C dX9_addPath_31 rfl 1 rfl ?_
        refine zm_iconst (v := 4) C dX9_addPath_32 (by decide) ?_
        refine zm_iload_n C dX9_addPath_33 rfl 2 rfl ?_
        refine zm_ci (zr_V (As := [.int (4 : Int32), .int x1]) (rest := []) C (c_X9_refused l g u_5 W (4 : Int32) x1 h) wd_351 wd_353 wp_2 wd_1 wd_354 hy_X9_refused rfl rfl ⟨by decide, by decide⟩ ⟨by decide, by decide⟩ (ci := 9) (by decide) (zCell_k kd_0) rfl rfl rfl rfl (Nat.le_of_ble_eq_true rfl) dX9_addPath_34) (fun r_20 M1 hq => ?_)
        obtain ⟨u_21, rfl, h⟩ := hq
        exact zm_iret C hr dX9_addPath_37 ⟨_, rfl, h⟩
    · have h := h.2 hc_6
      refine zm_iconst (v := -1) C dX9_addPath_24 (by decide) ?_
      exact zm_iret C hr dX9_addPath_25 ⟨_, rfl, h⟩
abbrev rm_X9_tread : Room := { frames := 7, cells := 1, slots := 6, locals := 306 }
def w_X9_tread (x1 : Int32) (x2 : Int32) (u : MU) (Q : Int32 → MU → Prop) (X : String → MU → Prop) : Prop := w_X9_setAside  u (fun u_2 => w_X9_addPath x1 x2 u_2 (fun r_3 u_4 => w_X9_settled r_3 u_4 (fun r_5 u_6 => Q r_5 u_6) X))
set_option maxHeartbeats 4000000 in
set_option maxRecDepth 100000 in
theorem c_X9_tread (l : Launch) (hstk : l.stackTraces = false) (g : GE) (u : MU) (W : MU × ((Nat → Int64) × (Nat → UInt64))) (x1 : Int32) (x2 : Int32) {Q : Int32 → MU → Prop} {X : String → MU → Prop} (h : w_X9_tread x1 x2 u Q X) : vx_Met l yX9_tread (.code yX9_tread cX9_tread 3 (Option.some Jvm.ClassFile.FieldType.int) :: TB) rm_X9_tread (zPc g (u, W) [.ref (g.2.2.1 0), .int x1, .int x2]) (zQi g (zPx W Q)) (zXC g (zXx W X)) 1 6 (zA g) := by
  unfold w_X9_tread at h
  refine zMetX (own := RX9) [(0, .ref (g.2.2.1 0)), (1, .int x1), (2, .int x2)] (by decide +kernel) rfl (Nat.le_of_ble_eq_true rfl) rfl (fun p e s m args below meth c C hr ht => ?_)
  refine zm_aload_n C dX9_tread_0 rfl 0 rfl ?_
  refine zm_cv (zr_V (As := []) (rest := []) C (c_X9_setAside l g u W  h) wd_343 wd_345 wp_0 wd_1 wd_346 hy_X9_setAside rfl rfl ⟨by decide, by decide⟩ ⟨by decide, by decide⟩ (ci := 9) (by decide) (zCell_k kd_0) rfl rfl rfl rfl (Nat.le_of_ble_eq_true rfl) dX9_tread_1) (fun M1 hq => ?_)
  obtain ⟨u_2, rfl, h⟩ := hq
  refine zm_aload_n C dX9_tread_4 rfl 0 rfl ?_
  refine zm_aload_n C dX9_tread_5 rfl 0 rfl ?_
  refine zm_iload_n C dX9_tread_6 rfl 1 rfl ?_
  refine zm_iload_n C dX9_tread_7 rfl 2 rfl ?_
  refine zm_ci (zr_V (As := [.int x1, .int x2]) (rest := [.ref (g.2.2.1 0)]) C (c_X9_addPath l g u_2 W x1 x2 h) wd_456 wd_458 wp_8 wd_1 wd_459 hy_X9_addPath rfl rfl ⟨by decide, by decide⟩ ⟨by decide, by decide⟩ (ci := 9) (by decide) (zCell_k kd_0) rfl rfl rfl rfl (Nat.le_of_ble_eq_true rfl) dX9_tread_8) (fun r_3 M1 hq => ?_)
  obtain ⟨u_4, rfl, h⟩ := hq
  refine zx_ci (zrX_V (As := [.int r_3]) (rest := []) C (c_X9_settled l hstk g u_4 W r_3 h) wd_363 wd_365 wp_5 wd_1 wd_366 hy_X9_settled rfl rfl ⟨by decide, by decide⟩ ⟨by decide, by decide⟩ (ci := 9) (by decide) (zCell_k kd_0) rfl rfl rfl rfl (Nat.le_of_ble_eq_true rfl) dX9_tread_11) (fun E M1 hq => ?_) (fun r_5 M1 hq => ?_)
  · obtain ⟨u_6, rfl, h⟩ := hq
    exact zm_out C ht (by decide) (by decide) ⟨_, rfl, h⟩
  · obtain ⟨u_6, rfl, h⟩ := hq
    refine zm_vx (by decide) (by decide) ?_
    exact zm_iret C hr dX9_tread_14 ⟨_, rfl, h⟩
abbrev rm_X9_dropPath : Room := { frames := 3, cells := 0, slots := 0, locals := 66 }
def w_X9_dropPath (x1 : Int32) (x2 : Int32) (u : MU) (Q : Int32 → MU → Prop) : Prop := w_X9_isRefusedFor x1 u (fun r_1 u_2 => ((¬ r_1 = 0) → Q (-1 : Int32) u_2) ∧ ((r_1 = 0) → w_X9_isRefusedFor x2 u_2 (fun r_4 u_5 => ((r_4 = 0) → w_X1_pathBetween 2 u_5 x1 x2 (fun r_7 => ((¬ r_7 = (-1 : Int32)) → w_X1_part 2 r_7 u_5 (fun u_11 => w_X9_markChanged  u_11 (fun u_13 => Q (u_13 2 1) u_13))) ∧ ((r_7 = (-1 : Int32)) → w_X9_refused (6 : Int32) x1 u_5 (fun r_14 u_15 => Q r_14 u_15)))) ∧ ((¬ r_4 = 0) → Q (-1 : Int32) u_5))))
set_option maxHeartbeats 4000000 in
set_option maxRecDepth 100000 in
theorem c_X9_dropPath (l : Launch) (g : GE) (u : MU) (W : MU × ((Nat → Int64) × (Nat → UInt64))) (x1 : Int32) (x2 : Int32) {Q : Int32 → MU → Prop} (h : w_X9_dropPath x1 x2 u Q) : Met l yX9_dropPath (.code yX9_dropPath cX9_dropPath 5 (Option.some Jvm.ClassFile.FieldType.int) :: TB) rm_X9_dropPath (zPc g (u, W) [.ref (g.2.2.1 0), .int x1, .int x2]) (zQi g (zPx W Q)) 0 0 (zA g) := by
  unfold w_X9_dropPath at h
  refine zMet (own := RX9) [(0, .ref (g.2.2.1 0)), (1, .int x1), (2, .int x2)] (by decide +kernel) rfl (Nat.le_of_ble_eq_true rfl) rfl (fun p e s m args below meth c C hr => ?_)
  refine zm_aload_n C dX9_dropPath_0 rfl 0 rfl ?_
  refine gf_RX9_10 (k1 := 1) C kd_0 rfl dX9_dropPath_1 ?_
  refine gf_RX9_138 (k1 := 2) C kd_1 rfl dX9_dropPath_4 ?_
  refine zm_astore_n (lv' := [(3, .ref (g.2.2.1 2)), (0, .ref (g.2.2.1 0)), (1, .int x1), (2, .int x2)]) C dX9_dropPath_7 rfl (by decide) rfl ?_
  refine zm_aload_n C dX9_dropPath_8 rfl 1 rfl ?_
  refine zm_iload_n C dX9_dropPath_9 rfl 2 rfl ?_
  refine zm_ci (zr_V (As := [.int x1]) (rest := []) C (c_X9_isRefusedFor l g u W x1 h) wd_460 wd_462 wp_9 wd_1 wd_463 hy_X9_isRefusedFor rfl rfl ⟨by decide, by decide⟩ ⟨by decide, by decide⟩ (ci := 9) (by decide) (zCell_k kd_0) rfl rfl rfl rfl (Nat.le_of_ble_eq_true rfl) dX9_dropPath_10) (fun r_1 M1 hq => ?_)
  obtain ⟨u_2, rfl, h⟩ := hq
  refine zm_if_ne (tgt := 24) C dX9_dropPath_13 (by decide) (fun hc_3 => ?_) (fun hc_3 => ?_)
  · have h := h.1 hc_3
    refine zm_iconst (v := -1) C dX9_dropPath_24 (by decide) ?_
    exact zm_iret C hr dX9_dropPath_25 ⟨_, rfl, h⟩
  · have h := h.2 hc_3
    refine zm_aload_n C dX9_dropPath_16 rfl 1 rfl ?_
    refine zm_iload_n C dX9_dropPath_17 rfl 3 rfl ?_
    refine zm_ci (zr_V (As := [.int x2]) (rest := []) C (c_X9_isRefusedFor l g u_2 W x2 h) wd_460 wd_462 wp_9 wd_1 wd_463 hy_X9_isRefusedFor rfl rfl ⟨by decide, by decide⟩ ⟨by decide, by decide⟩ (ci := 9) (by decide) (zCell_k kd_0) rfl rfl rfl rfl (Nat.le_of_ble_eq_true rfl) dX9_dropPath_18) (fun r_4 M1 hq => ?_)
    obtain ⟨u_5, rfl, h⟩ := hq
    refine zm_if_eq (tgt := 26) C dX9_dropPath_21 (by decide) (fun hc_6 => ?_) (fun hc_6 => ?_)
    · have h := h.1 hc_6
      refine zm_aload_n C dX9_dropPath_26 rfl 0 rfl ?_
      refine zm_iload_n C dX9_dropPath_27 rfl 2 rfl ?_
      refine zm_iload_n C dX9_dropPath_28 rfl 3 rfl ?_
      refine zm_ci (zr_V (As := [.int x1, .int x2]) (rest := []) C (c_X1_pathBetween l g u_5 W 2 kd_2 x1 x2 h) wd_468 wd_469 wd_470 wd_3 wd_471 hy_X1_pathBetween rfl rfl ⟨by decide, by decide⟩ ⟨by decide, by decide⟩ (ci := 1) (by decide) (zCell_k kd_2) rfl rfl rfl rfl (Nat.le_of_ble_eq_true rfl) dX9_dropPath_29) (fun r_7 M1 hq => ?_)
      obtain ⟨rfl, h⟩ := hq
      refine zm_istore (lv' := [(4, .int r_7), (3, .ref (g.2.2.1 2)), (0, .ref (g.2.2.1 0)), (1, .int x1), (2, .int x2)]) C dX9_dropPath_32 (by decide) rfl ?_
      refine zm_iload C dX9_dropPath_34 0 rfl ?_
      refine zm_iconst (v := -1) C dX9_dropPath_36 (by decide) ?_
      refine zm_icmp_ne (tgt := 48) C dX9_dropPath_37 (by decide) (fun hc_9 => ?_) (fun hc_9 => ?_)
      · have h := h.1 hc_9
        refine zm_aload_n C dX9_dropPath_48 rfl 1 rfl ?_
        refine zm_iload C dX9_dropPath_49 0 rfl ?_
        refine zm_cv (zr_V (As := [.int r_7]) (rest := []) C (c_X1_part l g u_5 W 2 kd_2 r_7 h) wd_500 wd_501 wd_502 wd_3 wd_503 hy_X1_part rfl rfl ⟨by decide, by decide⟩ ⟨by decide, by decide⟩ (ci := 1) (by decide) (zCell_k kd_2) rfl rfl rfl rfl (Nat.le_of_ble_eq_true rfl) dX9_dropPath_51) (fun M1 hq => ?_)
        obtain ⟨u_11, rfl, h⟩ := hq
        refine zm_aload_n C dX9_dropPath_54 rfl 2 rfl ?_
        refine zm_cv (zr_V (As := []) (rest := []) C (c_X9_markChanged l g u_11 W  h) wd_355 wd_357 wp_3 wd_1 wd_358 hy_X9_markChanged rfl rfl ⟨by decide, by decide⟩ ⟨by decide, by decide⟩ (ci := 9) (by decide) (zCell_k kd_0) rfl rfl rfl rfl (Nat.le_of_ble_eq_true rfl) dX9_dropPath_55) (fun M1 hq => ?_)
        obtain ⟨u_13, rfl, h⟩ := hq
        refine zm_aload_n C dX9_dropPath_58 rfl 1 rfl ?_
        refine gf_RX9_299 C kd_2 dX9_dropPath_59 ?_
        exact zm_iret C hr dX9_dropPath_62 ⟨_, rfl, h⟩
      · have h := h.2 hc_9
        refine zm_aload_n C dX9_dropPath_40 rfl 2 rfl ?_
        refine zm_bipush (v := 6) C dX9_dropPath_41 (by decide) ?_
        refine zm_iload_n C dX9_dropPath_43 rfl 3 rfl ?_
        refine zm_ci (zr_V (As := [.int (6 : Int32), .int x1]) (rest := []) C (c_X9_refused l g u_5 W (6 : Int32) x1 h) wd_351 wd_353 wp_2 wd_1 wd_354 hy_X9_refused rfl rfl ⟨by decide, by decide⟩ ⟨by decide, by decide⟩ (ci := 9) (by decide) (zCell_k kd_0) rfl rfl rfl rfl (Nat.le_of_ble_eq_true rfl) dX9_dropPath_44) (fun r_14 M1 hq => ?_)
        obtain ⟨u_15, rfl, h⟩ := hq
        exact zm_iret C hr dX9_dropPath_47 ⟨_, rfl, h⟩
    · have h := h.2 hc_6
      refine zm_iconst (v := -1) C dX9_dropPath_24 (by decide) ?_
      exact zm_iret C hr dX9_dropPath_25 ⟨_, rfl, h⟩
abbrev rm_X9_grow : Room := { frames := 7, cells := 1, slots := 6, locals := 306 }
def w_X9_grow (x1 : Int32) (x2 : Int32) (u : MU) (Q : Int32 → MU → Prop) (X : String → MU → Prop) : Prop := w_X9_setAside  u (fun u_2 => w_X9_dropPath x1 x2 u_2 (fun r_3 u_4 => w_X9_settled r_3 u_4 (fun r_5 u_6 => Q r_5 u_6) X))
set_option maxHeartbeats 4000000 in
set_option maxRecDepth 100000 in
theorem c_X9_grow (l : Launch) (hstk : l.stackTraces = false) (g : GE) (u : MU) (W : MU × ((Nat → Int64) × (Nat → UInt64))) (x1 : Int32) (x2 : Int32) {Q : Int32 → MU → Prop} {X : String → MU → Prop} (h : w_X9_grow x1 x2 u Q X) : vx_Met l yX9_grow (.code yX9_grow cX9_grow 3 (Option.some Jvm.ClassFile.FieldType.int) :: TB) rm_X9_grow (zPc g (u, W) [.ref (g.2.2.1 0), .int x1, .int x2]) (zQi g (zPx W Q)) (zXC g (zXx W X)) 1 6 (zA g) := by
  unfold w_X9_grow at h
  refine zMetX (own := RX9) [(0, .ref (g.2.2.1 0)), (1, .int x1), (2, .int x2)] (by decide +kernel) rfl (Nat.le_of_ble_eq_true rfl) rfl (fun p e s m args below meth c C hr ht => ?_)
  refine zm_aload_n C dX9_grow_0 rfl 0 rfl ?_
  refine zm_cv (zr_V (As := []) (rest := []) C (c_X9_setAside l g u W  h) wd_343 wd_345 wp_0 wd_1 wd_346 hy_X9_setAside rfl rfl ⟨by decide, by decide⟩ ⟨by decide, by decide⟩ (ci := 9) (by decide) (zCell_k kd_0) rfl rfl rfl rfl (Nat.le_of_ble_eq_true rfl) dX9_grow_1) (fun M1 hq => ?_)
  obtain ⟨u_2, rfl, h⟩ := hq
  refine zm_aload_n C dX9_grow_4 rfl 0 rfl ?_
  refine zm_aload_n C dX9_grow_5 rfl 0 rfl ?_
  refine zm_iload_n C dX9_grow_6 rfl 1 rfl ?_
  refine zm_iload_n C dX9_grow_7 rfl 2 rfl ?_
  refine zm_ci (zr_V (As := [.int x1, .int x2]) (rest := [.ref (g.2.2.1 0)]) C (c_X9_dropPath l g u_2 W x1 x2 h) wd_496 wd_498 wp_10 wd_1 wd_499 hy_X9_dropPath rfl rfl ⟨by decide, by decide⟩ ⟨by decide, by decide⟩ (ci := 9) (by decide) (zCell_k kd_0) rfl rfl rfl rfl (Nat.le_of_ble_eq_true rfl) dX9_grow_8) (fun r_3 M1 hq => ?_)
  obtain ⟨u_4, rfl, h⟩ := hq
  refine zx_ci (zrX_V (As := [.int r_3]) (rest := []) C (c_X9_settled l hstk g u_4 W r_3 h) wd_363 wd_365 wp_5 wd_1 wd_366 hy_X9_settled rfl rfl ⟨by decide, by decide⟩ ⟨by decide, by decide⟩ (ci := 9) (by decide) (zCell_k kd_0) rfl rfl rfl rfl (Nat.le_of_ble_eq_true rfl) dX9_grow_11) (fun E M1 hq => ?_) (fun r_5 M1 hq => ?_)
  · obtain ⟨u_6, rfl, h⟩ := hq
    exact zm_out C ht (by decide) (by decide) ⟨_, rfl, h⟩
  · obtain ⟨u_6, rfl, h⟩ := hq
    refine zm_vx (by decide) (by decide) ?_
    exact zm_iret C hr dX9_grow_14 ⟨_, rfl, h⟩
abbrev rm_J6_bitCount_0f7a4 : Room := { frames := 0, cells := 0, slots := 0, locals := 0 }
def w_J6_bitCount_0f7a4 (x0 : Int32) (Q : Int32 → Prop) : Prop := ∀ x0_1, x0_1 = (x0 - ((x0.toUInt32 >>> ((1 : Int32).toUInt32 &&& Int32.toUInt32 31)).toInt32 &&& (1431655765 : Int32))) → ∀ x0_2, x0_2 = ((x0_1 &&& (858993459 : Int32)) + ((x0_1.toUInt32 >>> ((2 : Int32).toUInt32 &&& Int32.toUInt32 31)).toInt32 &&& (858993459 : Int32))) → ∀ x0_3, x0_3 = ((x0_2 + (x0_2.toUInt32 >>> ((4 : Int32).toUInt32 &&& Int32.toUInt32 31)).toInt32) &&& (252645135 : Int32)) → ∀ x0_4, x0_4 = (x0_3 + (x0_3.toUInt32 >>> ((8 : Int32).toUInt32 &&& Int32.toUInt32 31)).toInt32) → ∀ x0_5, x0_5 = (x0_4 + (x0_4.toUInt32 >>> ((16 : Int32).toUInt32 &&& Int32.toUInt32 31)).toInt32) → Q (x0_5 &&& (63 : Int32))
set_option maxHeartbeats 4000000 in
set_option maxRecDepth 100000 in
theorem c_J6_bitCount_0f7a4 (l : Launch) (g : GE) (M : Mem) (x0 : Int32) {Q : Int32 → Prop} (h : w_J6_bitCount_0f7a4 x0 Q) : Met l yJ6_bitCount_0f7a4 (.code yJ6_bitCount_0f7a4 cJ6_bitCount_0f7a4 1 (Option.some Jvm.ClassFile.FieldType.int) :: TB) rm_J6_bitCount_0f7a4 (zPc g M [.int x0]) (zQi g (zP0 M Q)) 0 0 (zA g) := by
  unfold w_J6_bitCount_0f7a4 at h
  refine zMet (own := RJ6) [(0, .int x0)] (by decide +kernel) rfl (Nat.le_of_ble_eq_true rfl) rfl (fun p e s m args below meth c C hr => ?_)
  refine zm_iload_n C dJ6_bitCount_0f7a4_0 rfl 0 rfl ?_
  refine zm_iload_n C dJ6_bitCount_0f7a4_1 rfl 0 rfl ?_
  refine zm_iconst (v := 1) C dJ6_bitCount_0f7a4_2 (by decide) ?_
  refine zm_iushr C dJ6_bitCount_0f7a4_3 ?_
  refine zm_ldc_w (v := 1431655765) C wd_580 dJ6_bitCount_0f7a4_4 ?_
  refine zm_iand C dJ6_bitCount_0f7a4_7 ?_
  refine zm_isub C dJ6_bitCount_0f7a4_8 ?_
  refine zm_nmI (fun x0_1 hx0_1 => ?_)
  have h := h x0_1 hx0_1
  refine zm_istore_n (lv' := [(0, .int x0_1)]) C dJ6_bitCount_0f7a4_9 rfl (by decide) rfl ?_
  refine zm_iload_n C dJ6_bitCount_0f7a4_10 rfl 0 rfl ?_
  refine zm_ldc_w (v := 858993459) C wd_581 dJ6_bitCount_0f7a4_11 ?_
  refine zm_iand C dJ6_bitCount_0f7a4_14 ?_
  refine zm_iload_n C dJ6_bitCount_0f7a4_15 rfl 0 rfl ?_
  refine zm_iconst (v := 2) C dJ6_bitCount_0f7a4_16 (by decide) ?_
  refine zm_iushr C dJ6_bitCount_0f7a4_17 ?_
  refine zm_ldc_w (v := 858993459) C wd_581 dJ6_bitCount_0f7a4_18 ?_
  refine zm_iand C dJ6_bitCount_0f7a4_21 ?_
  refine zm_iadd C dJ6_bitCount_0f7a4_22 ?_
  refine zm_nmI (fun x0_2 hx0_2 => ?_)
  have h := h x0_2 hx0_2
  refine zm_istore_n (lv' := [(0, .int x0_2)]) C dJ6_bitCount_0f7a4_23 rfl (by decide) rfl ?_
  refine zm_iload_n C dJ6_bitCount_0f7a4_24 rfl 0 rfl ?_
  refine zm_iload_n C dJ6_bitCount_0f7a4_25 rfl 0 rfl ?_
  refine zm_iconst (v := 4) C dJ6_bitCount_0f7a4_26 (by decide) ?_
  refine zm_iushr C dJ6_bitCount_0f7a4_27 ?_
  refine zm_iadd C dJ6_bitCount_0f7a4_28 ?_
  refine zm_ldc_w (v := 252645135) C wd_582 dJ6_bitCount_0f7a4_29 ?_
  refine zm_iand C dJ6_bitCount_0f7a4_32 ?_
  refine zm_nmI (fun x0_3 hx0_3 => ?_)
  have h := h x0_3 hx0_3
  refine zm_istore_n (lv' := [(0, .int x0_3)]) C dJ6_bitCount_0f7a4_33 rfl (by decide) rfl ?_
  refine zm_iload_n C dJ6_bitCount_0f7a4_34 rfl 0 rfl ?_
  refine zm_iload_n C dJ6_bitCount_0f7a4_35 rfl 0 rfl ?_
  refine zm_bipush (v := 8) C dJ6_bitCount_0f7a4_36 (by decide) ?_
  refine zm_iushr C dJ6_bitCount_0f7a4_38 ?_
  refine zm_iadd C dJ6_bitCount_0f7a4_39 ?_
  refine zm_nmI (fun x0_4 hx0_4 => ?_)
  have h := h x0_4 hx0_4
  refine zm_istore_n (lv' := [(0, .int x0_4)]) C dJ6_bitCount_0f7a4_40 rfl (by decide) rfl ?_
  refine zm_iload_n C dJ6_bitCount_0f7a4_41 rfl 0 rfl ?_
  refine zm_iload_n C dJ6_bitCount_0f7a4_42 rfl 0 rfl ?_
  refine zm_bipush (v := 16) C dJ6_bitCount_0f7a4_43 (by decide) ?_
  refine zm_iushr C dJ6_bitCount_0f7a4_45 ?_
  refine zm_iadd C dJ6_bitCount_0f7a4_46 ?_
  refine zm_nmI (fun x0_5 hx0_5 => ?_)
  have h := h x0_5 hx0_5
  refine zm_istore_n (lv' := [(0, .int x0_5)]) C dJ6_bitCount_0f7a4_47 rfl (by decide) rfl ?_
  refine zm_iload_n C dJ6_bitCount_0f7a4_48 rfl 0 rfl ?_
  refine zm_bipush (v := 63) C dJ6_bitCount_0f7a4_49 (by decide) ?_
  refine zm_iand C dJ6_bitCount_0f7a4_51 ?_
  exact zm_iret C hr dJ6_bitCount_0f7a4_52 ⟨rfl, h⟩
abbrev rm_X9_turnTrap : Room := { frames := 2, cells := 0, slots := 0, locals := 43 }
def w_X9_turnTrap (x1 : Int32) (x2 : Int32) (u : MU) (Q : Int32 → MU → Prop) : Prop := w_X9_isRefusedFor x1 u (fun r_1 u_2 => ((r_1 = 0) → w_X1_isTrap 2 u_2 x1 (fun r_4 => ((¬ r_4 = x2) → (∀ u_7, u_7 = u2 u_2 2 2 ((u_2 2 2) ^^^ ((1 : Int32) <<< (x1 &&& 31))) → w_X9_markChanged  u_7 (fun u_9 => w_J6_bitCount_0f7a4 (u_9 2 2) (fun r_10 => Q r_10 u_9)))) ∧ ((r_4 = x2) → w_X9_refused (5 : Int32) (0 : Int32) u_2 (fun r_12 u_13 => Q r_12 u_13)))) ∧ ((¬ r_1 = 0) → Q (-1 : Int32) u_2))
set_option maxHeartbeats 4000000 in
set_option maxRecDepth 100000 in
theorem c_X9_turnTrap (l : Launch) (g : GE) (u : MU) (W : MU × ((Nat → Int64) × (Nat → UInt64))) (x1 : Int32) (x2 : Int32) {Q : Int32 → MU → Prop} (h : w_X9_turnTrap x1 x2 u Q) : Met l yX9_turnTrap (.code yX9_turnTrap cX9_turnTrap 4 (Option.some Jvm.ClassFile.FieldType.int) :: TB) rm_X9_turnTrap (zPc g (u, W) [.ref (g.2.2.1 0), .int x1, .int x2]) (zQi g (zPx W Q)) 0 0 (zA g) := by
  unfold w_X9_turnTrap at h
  refine zMet (own := RX9) [(0, .ref (g.2.2.1 0)), (1, .int x1), (2, .int x2)] (by decide +kernel) rfl (Nat.le_of_ble_eq_true rfl) rfl (fun p e s m args below meth c C hr => ?_)
  refine zm_aload_n C dX9_turnTrap_0 rfl 0 rfl ?_
  refine gf_RX9_10 (k1 := 1) C kd_0 rfl dX9_turnTrap_1 ?_
  refine gf_RX9_138 (k1 := 2) C kd_1 rfl dX9_turnTrap_4 ?_
  refine zm_astore_n (lv' := [(3, .ref (g.2.2.1 2)), (0, .ref (g.2.2.1 0)), (1, .int x1), (2, .int x2)]) C dX9_turnTrap_7 rfl (by decide) rfl ?_
  refine zm_aload_n C dX9_turnTrap_8 rfl 1 rfl ?_
  refine zm_iload_n C dX9_turnTrap_9 rfl 2 rfl ?_
  refine zm_ci (zr_V (As := [.int x1]) (rest := []) C (c_X9_isRefusedFor l g u W x1 h) wd_460 wd_462 wp_9 wd_1 wd_463 hy_X9_isRefusedFor rfl rfl ⟨by decide, by decide⟩ ⟨by decide, by decide⟩ (ci := 9) (by decide) (zCell_k kd_0) rfl rfl rfl rfl (Nat.le_of_ble_eq_true rfl) dX9_turnTrap_10) (fun r_1 M1 hq => ?_)
  obtain ⟨u_2, rfl, h⟩ := hq
  refine zm_if_eq (tgt := 18) C dX9_turnTrap_13 (by decide) (fun hc_3 => ?_) (fun hc_3 => ?_)
  · have h := h.1 hc_3
    refine zm_aload_n C dX9_turnTrap_18 rfl 0 rfl ?_
    refine zm_iload_n C dX9_turnTrap_19 rfl 2 rfl ?_
    refine zm_ci (zr_V (As := [.int x1]) (rest := []) C (c_X1_isTrap l g u_2 W 2 kd_2 x1 h) wd_586 wd_587 wd_588 wd_3 wd_589 hy_X1_isTrap rfl rfl ⟨by decide, by decide⟩ ⟨by decide, by decide⟩ (ci := 1) (by decide) (zCell_k kd_2) rfl rfl rfl rfl (Nat.le_of_ble_eq_true rfl) dX9_turnTrap_20) (fun r_4 M1 hq => ?_)
    obtain ⟨rfl, h⟩ := hq
    refine zm_iload_n C dX9_turnTrap_23 rfl 3 rfl ?_
    refine zm_icmp_ne (tgt := 34) C dX9_turnTrap_24 (by decide) (fun hc_6 => ?_) (fun hc_6 => ?_)
    · have h := h.1 hc_6
      refine zm_aload_n C dX9_turnTrap_34 rfl 0 rfl ?_
      refine zm_dup C dX9_turnTrap_35 rfl ?_
      refine gf_RX9_319 C kd_2 dX9_turnTrap_36 ?_
      refine zm_iconst (v := 1) C dX9_turnTrap_39 (by decide) ?_
      refine zm_iload_n C dX9_turnTrap_40 rfl 2 rfl ?_
      refine zm_ishl C dX9_turnTrap_41 ?_
      refine zm_ixor C dX9_turnTrap_42 ?_
      refine pf_RX9_319 C kd_2  dX9_turnTrap_43 (fun u_7 hu_7 => ?_)
      have h := h u_7 hu_7
      refine zm_aload_n C dX9_turnTrap_46 rfl 1 rfl ?_
      refine zm_cv (zr_V (As := []) (rest := []) C (c_X9_markChanged l g u_7 W  h) wd_355 wd_357 wp_3 wd_1 wd_358 hy_X9_markChanged rfl rfl ⟨by decide, by decide⟩ ⟨by decide, by decide⟩ (ci := 9) (by decide) (zCell_k kd_0) rfl rfl rfl rfl (Nat.le_of_ble_eq_true rfl) dX9_turnTrap_47) (fun M1 hq => ?_)
      obtain ⟨u_9, rfl, h⟩ := hq
      refine zm_aload_n C dX9_turnTrap_50 rfl 0 rfl ?_
      refine gf_RX9_319 C kd_2 dX9_turnTrap_51 ?_
      refine zm_ci (zr_Sx (As := [.int (u_9 2 2)]) (rest := []) C (c_J6_bitCount_0f7a4 l g (u_9, W) (u_9 2 2) h) wd_577 wd_578 wd_20 wd_579 hz_J6_bitCount_0f7a4 rfl rfl ⟨by decide, by decide⟩ ⟨by decide, by decide⟩ rfl rfl (Nat.le_of_ble_eq_true rfl) dX9_turnTrap_54) (fun r_10 M1 hq => ?_)
      obtain ⟨rfl, h⟩ := hq
      exact zm_iret C hr dX9_turnTrap_57 ⟨_, rfl, h⟩
    · have h := h.2 hc_6
      refine zm_aload_n C dX9_turnTrap_27 rfl 1 rfl ?_
      refine zm_iconst (v := 5) C dX9_turnTrap_28 (by decide) ?_
      refine zm_iconst (v := 0) C dX9_turnTrap_29 (by decide) ?_
      refine zm_ci (zr_V (As := [.int (5 : Int32), .int (0 : Int32)]) (rest := []) C (c_X9_refused l g u_2 W (5 : Int32) (0 : Int32) h) wd_351 wd_353 wp_2 wd_1 wd_354 hy_X9_refused rfl rfl ⟨by decide, by decide⟩ ⟨by decide, by decide⟩ (ci := 9) (by decide) (zCell_k kd_0) rfl rfl rfl rfl (Nat.le_of_ble_eq_true rfl) dX9_turnTrap_30) (fun r_12 M1 hq => ?_)
      obtain ⟨u_13, rfl, h⟩ := hq
      exact zm_iret C hr dX9_turnTrap_33 ⟨_, rfl, h⟩
  · have h := h.2 hc_3
    refine zm_iconst (v := -1) C dX9_turnTrap_16 (by decide) ?_
    exact zm_iret C hr dX9_turnTrap_17 ⟨_, rfl, h⟩
abbrev rm_X9_trap : Room := { frames := 7, cells := 1, slots := 6, locals := 306 }
def w_X9_trap (x1 : Int32) (x2 : Int32) (u : MU) (Q : Int32 → MU → Prop) (X : String → MU → Prop) : Prop := w_X9_setAside  u (fun u_2 => w_X9_turnTrap x1 x2 u_2 (fun r_3 u_4 => w_X9_settled r_3 u_4 (fun r_5 u_6 => Q r_5 u_6) X))
set_option maxHeartbeats 4000000 in
set_option maxRecDepth 100000 in
theorem c_X9_trap (l : Launch) (hstk : l.stackTraces = false) (g : GE) (u : MU) (W : MU × ((Nat → Int64) × (Nat → UInt64))) (x1 : Int32) (x2 : Int32) {Q : Int32 → MU → Prop} {X : String → MU → Prop} (h : w_X9_trap x1 x2 u Q X) : vx_Met l yX9_trap (.code yX9_trap cX9_trap 3 (Option.some Jvm.ClassFile.FieldType.int) :: TB) rm_X9_trap (zPc g (u, W) [.ref (g.2.2.1 0), .int x1, .int x2]) (zQi g (zPx W Q)) (zXC g (zXx W X)) 1 6 (zA g) := by
  unfold w_X9_trap at h
  refine zMetX (own := RX9) [(0, .ref (g.2.2.1 0)), (1, .int x1), (2, .int x2)] (by decide +kernel) rfl (Nat.le_of_ble_eq_true rfl) rfl (fun p e s m args below meth c C hr ht => ?_)
  refine zm_aload_n C dX9_trap_0 rfl 0 rfl ?_
  refine zm_cv (zr_V (As := []) (rest := []) C (c_X9_setAside l g u W  h) wd_343 wd_345 wp_0 wd_1 wd_346 hy_X9_setAside rfl rfl ⟨by decide, by decide⟩ ⟨by decide, by decide⟩ (ci := 9) (by decide) (zCell_k kd_0) rfl rfl rfl rfl (Nat.le_of_ble_eq_true rfl) dX9_trap_1) (fun M1 hq => ?_)
  obtain ⟨u_2, rfl, h⟩ := hq
  refine zm_aload_n C dX9_trap_4 rfl 0 rfl ?_
  refine zm_aload_n C dX9_trap_5 rfl 0 rfl ?_
  refine zm_iload_n C dX9_trap_6 rfl 1 rfl ?_
  refine zm_iload_n C dX9_trap_7 rfl 2 rfl ?_
  refine zm_ci (zr_V (As := [.int x1, .int x2]) (rest := [.ref (g.2.2.1 0)]) C (c_X9_turnTrap l g u_2 W x1 x2 h) wd_768 wd_770 wp_20 wd_1 wd_771 hy_X9_turnTrap rfl rfl ⟨by decide, by decide⟩ ⟨by decide, by decide⟩ (ci := 9) (by decide) (zCell_k kd_0) rfl rfl rfl rfl (Nat.le_of_ble_eq_true rfl) dX9_trap_8) (fun r_3 M1 hq => ?_)
  obtain ⟨u_4, rfl, h⟩ := hq
  refine zx_ci (zrX_V (As := [.int r_3]) (rest := []) C (c_X9_settled l hstk g u_4 W r_3 h) wd_363 wd_365 wp_5 wd_1 wd_366 hy_X9_settled rfl rfl ⟨by decide, by decide⟩ ⟨by decide, by decide⟩ (ci := 9) (by decide) (zCell_k kd_0) rfl rfl rfl rfl (Nat.le_of_ble_eq_true rfl) dX9_trap_11) (fun E M1 hq => ?_) (fun r_5 M1 hq => ?_)
  · obtain ⟨u_6, rfl, h⟩ := hq
    exact zm_out C ht (by decide) (by decide) ⟨_, rfl, h⟩
  · obtain ⟨u_6, rfl, h⟩ := hq
    refine zm_vx (by decide) (by decide) ?_
    exact zm_iret C hr dX9_trap_14 ⟨_, rfl, h⟩
abbrev rm_X9_setGeese : Room := { frames := 2, cells := 0, slots := 0, locals := 40 }
def wb_X9_setGeese_10 (Q : Int32 → MU → Prop) (u : MU) : Prop := w_X9_refused (1 : Int32) (0 : Int32) u (fun r_1 u_2 => Q r_1 u_2)
set_option maxHeartbeats 4000000 in
set_option maxRecDepth 100000 in
theorem vb_X9_setGeese_10 {p : Program} {l : Launch} {e : Env} {s : State} {m : MethodId} {args : Array Value} {below : List Frame} {meth : Method} {c : Code} {g : GE} {W : MU × ((Nat → Int64) × (Nat → UInt64))} {Q : Int32 → MU → Prop} (C : zCx p l s m args meth c g RX9 cX9_setGeese 3) (hr : meth.sig.returnType = (Option.some Jvm.ClassFile.FieldType.int)) (u : MU) (h : wb_X9_setGeese_10   Q  u) : WM p l e rm_X9_setGeese s m args below meth c g 3 0 0 (MQ below (zQi g (zPx W Q)) args s 0 0 (zA g)) 10 [(0, .ref (g.2.2.1 0))] [] (u, W) := by
  unfold wb_X9_setGeese_10 at h
  refine zm_aload_n C dX9_setGeese_10 rfl 0 rfl ?_
  refine zm_iconst (v := 1) C dX9_setGeese_11 (by decide) ?_
  refine zm_iconst (v := 0) C dX9_setGeese_12 (by decide) ?_
  refine zm_ci (zr_V (As := [.int (1 : Int32), .int (0 : Int32)]) (rest := []) C (c_X9_refused l g u W (1 : Int32) (0 : Int32) h) wd_351 wd_353 wp_2 wd_1 wd_354 hy_X9_refused rfl rfl ⟨by decide, by decide⟩ ⟨by decide, by decide⟩ (ci := 9) (by decide) (zCell_k kd_0) rfl rfl rfl rfl (Nat.le_of_ble_eq_true rfl) dX9_setGeese_13) (fun r_1 M1 hq => ?_)
  obtain ⟨u_2, rfl, h⟩ := hq
  exact zm_iret C hr dX9_setGeese_16 ⟨_, rfl, h⟩
def w_X9_setGeese (x1 : Int32) (u : MU) (Q : Int32 → MU → Prop) : Prop := ((x1 < (1 : Int32)) → wb_X9_setGeese_10   Q u) ∧ ((¬ x1 < (1 : Int32)) → ((x1 ≤ (2 : Int32)) → ∀ x2_3, x2_3 = (u 2 3) → ((¬ x1 = x2_3) → (∀ u_5, u_5 = u2 u 2 3 x1 → w_X9_markChanged  u_5 (fun u_7 => Q x2_3 u_7))) ∧ ((x1 = x2_3) → w_X9_refused (5 : Int32) (0 : Int32) u (fun r_8 u_9 => Q r_8 u_9))) ∧ ((¬ x1 ≤ (2 : Int32)) → wb_X9_setGeese_10   Q u))
set_option maxHeartbeats 4000000 in
set_option maxRecDepth 100000 in
theorem c_X9_setGeese (l : Launch) (g : GE) (u : MU) (W : MU × ((Nat → Int64) × (Nat → UInt64))) (x1 : Int32) {Q : Int32 → MU → Prop} (h : w_X9_setGeese x1 u Q) : Met l yX9_setGeese (.code yX9_setGeese cX9_setGeese 3 (Option.some Jvm.ClassFile.FieldType.int) :: TB) rm_X9_setGeese (zPc g (u, W) [.ref (g.2.2.1 0), .int x1]) (zQi g (zPx W Q)) 0 0 (zA g) := by
  unfold w_X9_setGeese at h
  refine zMet (own := RX9) [(0, .ref (g.2.2.1 0)), (1, .int x1)] (by decide +kernel) rfl (Nat.le_of_ble_eq_true rfl) rfl (fun p e s m args below meth c C hr => ?_)
  refine zm_iload_n C dX9_setGeese_0 rfl 1 rfl ?_
  refine zm_iconst (v := 1) C dX9_setGeese_1 (by decide) ?_
  refine zm_icmp_lt (tgt := 10) C dX9_setGeese_2 (by decide) (fun hc_1 => ?_) (fun hc_1 => ?_)
  · have h := h.1 hc_1
    exact zm_sub [0] rfl (vb_X9_setGeese_10 C hr  _ h)
  · have h := h.2 hc_1
    refine zm_iload_n C dX9_setGeese_5 rfl 1 rfl ?_
    refine zm_iconst (v := 2) C dX9_setGeese_6 (by decide) ?_
    refine zm_icmp_le (tgt := 17) C dX9_setGeese_7 (by decide) (fun hc_2 => ?_) (fun hc_2 => ?_)
    · have h := h.1 hc_2
      refine zm_aload_n C dX9_setGeese_17 rfl 0 rfl ?_
      refine gf_RX9_10 (k1 := 1) C kd_0 rfl dX9_setGeese_18 ?_
      refine gf_RX9_138 (k1 := 2) C kd_1 rfl dX9_setGeese_21 ?_
      refine gf_RX9_322 C kd_2 dX9_setGeese_24 ?_
      refine zm_nmI (fun x2_3 hx2_3 => ?_)
      have h := h x2_3 hx2_3
      refine zm_istore_n (lv' := [(2, .int x2_3), (0, .ref (g.2.2.1 0)), (1, .int x1)]) C dX9_setGeese_27 rfl (by decide) rfl ?_
      refine zm_iload_n C dX9_setGeese_28 rfl 2 rfl ?_
      refine zm_iload_n C dX9_setGeese_29 rfl 0 rfl ?_
      refine zm_icmp_ne (tgt := 40) C dX9_setGeese_30 (by decide) (fun hc_4 => ?_) (fun hc_4 => ?_)
      · have h := h.1 hc_4
        refine zm_aload_n C dX9_setGeese_40 rfl 1 rfl ?_
        refine gf_RX9_10 (k1 := 1) C kd_0 rfl dX9_setGeese_41 ?_
        refine gf_RX9_138 (k1 := 2) C kd_1 rfl dX9_setGeese_44 ?_
        refine zm_iload_n C dX9_setGeese_47 rfl 2 rfl ?_
        refine pf_RX9_322 C kd_2  dX9_setGeese_48 (fun u_5 hu_5 => ?_)
        have h := h u_5 hu_5
        refine zm_aload_n C dX9_setGeese_51 rfl 1 rfl ?_
        refine zm_cv (zr_V (As := []) (rest := []) C (c_X9_markChanged l g u_5 W  h) wd_355 wd_357 wp_3 wd_1 wd_358 hy_X9_markChanged rfl rfl ⟨by decide, by decide⟩ ⟨by decide, by decide⟩ (ci := 9) (by decide) (zCell_k kd_0) rfl rfl rfl rfl (Nat.le_of_ble_eq_true rfl) dX9_setGeese_52) (fun M1 hq => ?_)
        obtain ⟨u_7, rfl, h⟩ := hq
        refine zm_iload_n C dX9_setGeese_55 rfl 0 rfl ?_
        exact zm_iret C hr dX9_setGeese_56 ⟨_, rfl, h⟩
      · have h := h.2 hc_4
        refine zm_aload_n C dX9_setGeese_33 rfl 1 rfl ?_
        refine zm_iconst (v := 5) C dX9_setGeese_34 (by decide) ?_
        refine zm_iconst (v := 0) C dX9_setGeese_35 (by decide) ?_
        refine zm_ci (zr_V (As := [.int (5 : Int32), .int (0 : Int32)]) (rest := []) C (c_X9_refused l g u W (5 : Int32) (0 : Int32) h) wd_351 wd_353 wp_2 wd_1 wd_354 hy_X9_refused rfl rfl ⟨by decide, by decide⟩ ⟨by decide, by decide⟩ (ci := 9) (by decide) (zCell_k kd_0) rfl rfl rfl rfl (Nat.le_of_ble_eq_true rfl) dX9_setGeese_36) (fun r_8 M1 hq => ?_)
        obtain ⟨u_9, rfl, h⟩ := hq
        exact zm_iret C hr dX9_setGeese_39 ⟨_, rfl, h⟩
    · have h := h.2 hc_2
      exact zm_sub [0] rfl (vb_X9_setGeese_10 C hr  _ h)
abbrev rm_X9_flock : Room := { frames := 7, cells := 1, slots := 6, locals := 306 }
def w_X9_flock (x1 : Int32) (u : MU) (Q : Int32 → MU → Prop) (X : String → MU → Prop) : Prop := w_X9_setAside  u (fun u_2 => w_X9_setGeese x1 u_2 (fun r_3 u_4 => w_X9_settled r_3 u_4 (fun r_5 u_6 => Q r_5 u_6) X))
set_option maxHeartbeats 4000000 in
set_option maxRecDepth 100000 in
theorem c_X9_flock (l : Launch) (hstk : l.stackTraces = false) (g : GE) (u : MU) (W : MU × ((Nat → Int64) × (Nat → UInt64))) (x1 : Int32) {Q : Int32 → MU → Prop} {X : String → MU → Prop} (h : w_X9_flock x1 u Q X) : vx_Met l yX9_flock (.code yX9_flock cX9_flock 2 (Option.some Jvm.ClassFile.FieldType.int) :: TB) rm_X9_flock (zPc g (u, W) [.ref (g.2.2.1 0), .int x1]) (zQi g (zPx W Q)) (zXC g (zXx W X)) 1 6 (zA g) := by
  unfold w_X9_flock at h
  refine zMetX (own := RX9) [(0, .ref (g.2.2.1 0)), (1, .int x1)] (by decide +kernel) rfl (Nat.le_of_ble_eq_true rfl) rfl (fun p e s m args below meth c C hr ht => ?_)
  refine zm_aload_n C dX9_flock_0 rfl 0 rfl ?_
  refine zm_cv (zr_V (As := []) (rest := []) C (c_X9_setAside l g u W  h) wd_343 wd_345 wp_0 wd_1 wd_346 hy_X9_setAside rfl rfl ⟨by decide, by decide⟩ ⟨by decide, by decide⟩ (ci := 9) (by decide) (zCell_k kd_0) rfl rfl rfl rfl (Nat.le_of_ble_eq_true rfl) dX9_flock_1) (fun M1 hq => ?_)
  obtain ⟨u_2, rfl, h⟩ := hq
  refine zm_aload_n C dX9_flock_4 rfl 0 rfl ?_
  refine zm_aload_n C dX9_flock_5 rfl 0 rfl ?_
  refine zm_iload_n C dX9_flock_6 rfl 1 rfl ?_
  refine zm_ci (zr_V (As := [.int x1]) (rest := [.ref (g.2.2.1 0)]) C (c_X9_setGeese l g u_2 W x1 h) wd_511 wd_513 wp_11 wd_1 wd_514 hy_X9_setGeese rfl rfl ⟨by decide, by decide⟩ ⟨by decide, by decide⟩ (ci := 9) (by decide) (zCell_k kd_0) rfl rfl rfl rfl (Nat.le_of_ble_eq_true rfl) dX9_flock_7) (fun r_3 M1 hq => ?_)
  obtain ⟨u_4, rfl, h⟩ := hq
  refine zx_ci (zrX_V (As := [.int r_3]) (rest := []) C (c_X9_settled l hstk g u_4 W r_3 h) wd_363 wd_365 wp_5 wd_1 wd_366 hy_X9_settled rfl rfl ⟨by decide, by decide⟩ ⟨by decide, by decide⟩ (ci := 9) (by decide) (zCell_k kd_0) rfl rfl rfl rfl (Nat.le_of_ble_eq_true rfl) dX9_flock_10) (fun E M1 hq => ?_) (fun r_5 M1 hq => ?_)
  · obtain ⟨u_6, rfl, h⟩ := hq
    exact zm_out C ht (by decide) (by decide) ⟨_, rfl, h⟩
  · obtain ⟨u_6, rfl, h⟩ := hq
    refine zm_vx (by decide) (by decide) ?_
    exact zm_iret C hr dX9_flock_13 ⟨_, rfl, h⟩
abbrev rm_X9_startGame : Room := { frames := 3, cells := 0, slots := 0, locals := 65 }
def w_X9_startGame (x1 : Int32) (u : MU) (Q : Int32 → MU → Prop) : Prop := w_X1_holds 2 u x1 (fun r_1 => ((¬ r_1 = 0) → w_X2_start 6 x1 u (fun u_5 => (∀ u_6, u_6 = u2 u_5 1 2 ((u_5 1 2) + (1 : Int32)) → w_X1_movesOf 2 u_6 x1 (fun r_7 => w_J13_bitCount_95d88 r_7 (fun r_9 => Q r_9 u_6))))) ∧ ((r_1 = 0) → w_X9_refused (7 : Int32) x1 u (fun r_11 u_12 => Q r_11 u_12)))
set_option maxHeartbeats 4000000 in
set_option maxRecDepth 100000 in
theorem c_X9_startGame (l : Launch) (g : GE) (u : MU) (W : MU × ((Nat → Int64) × (Nat → UInt64))) (x1 : Int32) {Q : Int32 → MU → Prop} (h : w_X9_startGame x1 u Q) : Met l yX9_startGame (.code yX9_startGame cX9_startGame 2 (Option.some Jvm.ClassFile.FieldType.int) :: TB) rm_X9_startGame (zPc g (u, W) [.ref (g.2.2.1 0), .int x1]) (zQi g (zPx W Q)) 0 0 (zA g) := by
  unfold w_X9_startGame at h
  refine zMet (own := RX9) [(0, .ref (g.2.2.1 0)), (1, .int x1)] (by decide +kernel) rfl (Nat.le_of_ble_eq_true rfl) rfl (fun p e s m args below meth c C hr => ?_)
  refine zm_aload_n C dX9_startGame_0 rfl 0 rfl ?_
  refine gf_RX9_10 (k1 := 1) C kd_0 rfl dX9_startGame_1 ?_
  refine gf_RX9_138 (k1 := 2) C kd_1 rfl dX9_startGame_4 ?_
  refine zm_iload_n C dX9_startGame_7 rfl 1 rfl ?_
  refine zm_ci (zr_V (As := [.int x1]) (rest := []) C (c_X1_holds l g u W 2 kd_2 x1 h) wd_776 wd_777 wd_778 wd_3 wd_779 hy_X1_holds rfl rfl ⟨by decide, by decide⟩ ⟨by decide, by decide⟩ (ci := 1) (by decide) (zCell_k kd_2) rfl rfl rfl rfl (Nat.le_of_ble_eq_true rfl) dX9_startGame_8) (fun r_1 M1 hq => ?_)
  obtain ⟨rfl, h⟩ := hq
  refine zm_if_ne (tgt := 22) C dX9_startGame_11 (by decide) (fun hc_3 => ?_) (fun hc_3 => ?_)
  · have h := h.1 hc_3
    refine zm_aload_n C dX9_startGame_22 rfl 0 rfl ?_
    refine gf_RX9_10 (k1 := 1) C kd_0 rfl dX9_startGame_23 ?_
    refine gf_RX9_118 (k1 := 6) C kd_1 rfl dX9_startGame_26 ?_
    refine zm_iload_n C dX9_startGame_29 rfl 1 rfl ?_
    refine zm_cv (zr_V (As := [.int x1]) (rest := []) C (c_X2_start l g u W 6 kd_6 x1 h) wd_780 wd_781 wd_782 wd_4 wd_783 hy_X2_start rfl rfl ⟨by decide, by decide⟩ ⟨by decide, by decide⟩ (ci := 2) (by decide) (zCell_k kd_6) rfl rfl rfl rfl (Nat.le_of_ble_eq_true rfl) dX9_startGame_30) (fun M1 hq => ?_)
    obtain ⟨u_5, rfl, h⟩ := hq
    refine zm_aload_n C dX9_startGame_33 rfl 0 rfl ?_
    refine gf_RX9_10 (k1 := 1) C kd_0 rfl dX9_startGame_34 ?_
    refine zm_dup C dX9_startGame_37 rfl ?_
    refine gf_RX9_328 C kd_1 dX9_startGame_38 ?_
    refine zm_iconst (v := 1) C dX9_startGame_41 (by decide) ?_
    refine zm_iadd C dX9_startGame_42 ?_
    refine pf_RX9_328 C kd_1  dX9_startGame_43 (fun u_6 hu_6 => ?_)
    have h := h u_6 hu_6
    refine zm_aload_n C dX9_startGame_46 rfl 0 rfl ?_
    refine gf_RX9_10 (k1 := 1) C kd_0 rfl dX9_startGame_47 ?_
    refine gf_RX9_138 (k1 := 2) C kd_1 rfl dX9_startGame_50 ?_
    refine zm_iload_n C dX9_startGame_53 rfl 1 rfl ?_
    refine zm_cl (zr_V (As := [.int x1]) (rest := []) C (c_X1_movesOf l g u_6 W 2 kd_2 x1 h) wd_785 wd_612 wd_613 wd_3 wd_614 hy_X1_movesOf rfl rfl ⟨by decide, by decide⟩ ⟨by decide, by decide⟩ (ci := 1) (by decide) (zCell_k kd_2) rfl rfl rfl rfl (Nat.le_of_ble_eq_true rfl) dX9_startGame_54) (fun r_7 M1 hq => ?_)
    obtain ⟨rfl, h⟩ := hq
    refine zm_ci (zr_Sx (As := [.long r_7]) (rest := []) C (c_J13_bitCount_95d88 l g (u_6, W) r_7 h) wd_658 wd_637 wd_21 wd_638 hz_J13_bitCount_95d88 rfl rfl ⟨by decide, by decide⟩ ⟨by decide, by decide⟩ rfl rfl (Nat.le_of_ble_eq_true rfl) dX9_startGame_57) (fun r_9 M1 hq => ?_)
    obtain ⟨rfl, h⟩ := hq
    exact zm_iret C hr dX9_startGame_60 ⟨_, rfl, h⟩
  · have h := h.2 hc_3
    refine zm_aload_n C dX9_startGame_14 rfl 0 rfl ?_
    refine zm_bipush (v := 7) C dX9_startGame_15 (by decide) ?_
    refine zm_iload_n C dX9_startGame_17 rfl 1 rfl ?_
    refine zm_ci (zr_V (As := [.int (7 : Int32), .int x1]) (rest := []) C (c_X9_refused l g u W (7 : Int32) x1 h) wd_351 wd_353 wp_2 wd_1 wd_354 hy_X9_refused rfl rfl ⟨by decide, by decide⟩ ⟨by decide, by decide⟩ (ci := 9) (by decide) (zCell_k kd_0) rfl rfl rfl rfl (Nat.le_of_ble_eq_true rfl) dX9_startGame_18) (fun r_11 M1 hq => ?_)
    obtain ⟨u_12, rfl, h⟩ := hq
    exact zm_iret C hr dX9_startGame_21 ⟨_, rfl, h⟩
abbrev rm_X9_begin : Room := { frames := 7, cells := 1, slots := 6, locals := 306 }
def w_X9_begin (x1 : Int32) (u : MU) (Q : Int32 → MU → Prop) (X : String → MU → Prop) : Prop := w_X9_setAside  u (fun u_2 => w_X9_startGame x1 u_2 (fun r_3 u_4 => w_X9_settled r_3 u_4 (fun r_5 u_6 => Q r_5 u_6) X))
set_option maxHeartbeats 4000000 in
set_option maxRecDepth 100000 in
theorem c_X9_begin (l : Launch) (hstk : l.stackTraces = false) (g : GE) (u : MU) (W : MU × ((Nat → Int64) × (Nat → UInt64))) (x1 : Int32) {Q : Int32 → MU → Prop} {X : String → MU → Prop} (h : w_X9_begin x1 u Q X) : vx_Met l yX9_begin (.code yX9_begin cX9_begin 2 (Option.some Jvm.ClassFile.FieldType.int) :: TB) rm_X9_begin (zPc g (u, W) [.ref (g.2.2.1 0), .int x1]) (zQi g (zPx W Q)) (zXC g (zXx W X)) 1 6 (zA g) := by
  unfold w_X9_begin at h
  refine zMetX (own := RX9) [(0, .ref (g.2.2.1 0)), (1, .int x1)] (by decide +kernel) rfl (Nat.le_of_ble_eq_true rfl) rfl (fun p e s m args below meth c C hr ht => ?_)
  refine zm_aload_n C dX9_begin_0 rfl 0 rfl ?_
  refine zm_cv (zr_V (As := []) (rest := []) C (c_X9_setAside l g u W  h) wd_343 wd_345 wp_0 wd_1 wd_346 hy_X9_setAside rfl rfl ⟨by decide, by decide⟩ ⟨by decide, by decide⟩ (ci := 9) (by decide) (zCell_k kd_0) rfl rfl rfl rfl (Nat.le_of_ble_eq_true rfl) dX9_begin_1) (fun M1 hq => ?_)
  obtain ⟨u_2, rfl, h⟩ := hq
  refine zm_aload_n C dX9_begin_4 rfl 0 rfl ?_
  refine zm_aload_n C dX9_begin_5 rfl 0 rfl ?_
  refine zm_iload_n C dX9_begin_6 rfl 1 rfl ?_
  refine zm_ci (zr_V (As := [.int x1]) (rest := [.ref (g.2.2.1 0)]) C (c_X9_startGame l g u_2 W x1 h) wd_772 wd_774 wp_21 wd_1 wd_775 hy_X9_startGame rfl rfl ⟨by decide, by decide⟩ ⟨by decide, by decide⟩ (ci := 9) (by decide) (zCell_k kd_0) rfl rfl rfl rfl (Nat.le_of_ble_eq_true rfl) dX9_begin_7) (fun r_3 M1 hq => ?_)
  obtain ⟨u_4, rfl, h⟩ := hq
  refine zx_ci (zrX_V (As := [.int r_3]) (rest := []) C (c_X9_settled l hstk g u_4 W r_3 h) wd_363 wd_365 wp_5 wd_1 wd_366 hy_X9_settled rfl rfl ⟨by decide, by decide⟩ ⟨by decide, by decide⟩ (ci := 9) (by decide) (zCell_k kd_0) rfl rfl rfl rfl (Nat.le_of_ble_eq_true rfl) dX9_begin_10) (fun E M1 hq => ?_) (fun r_5 M1 hq => ?_)
  · obtain ⟨u_6, rfl, h⟩ := hq
    exact zm_out C ht (by decide) (by decide) ⟨_, rfl, h⟩
  · obtain ⟨u_6, rfl, h⟩ := hq
    refine zm_vx (by decide) (by decide) ?_
    exact zm_iret C hr dX9_begin_13 ⟨_, rfl, h⟩
abbrev rm_X9_makeMove : Room := { frames := 4, cells := 0, slots := 0, locals := 88 }
def w_X9_makeMove (x1 : Int32) (x2 : Int32) (u : MU) (Q : Int32 → MU → Prop) : Prop := ((¬ (u 6 0) = 0) → w_X2_lastPosition 6 u (fun r_2 => w_X1_movesOf 2 u r_2 (fun r_4 => w_J13_bitCount_95d88 r_4 (fun r_6 => ((¬ r_6 = 0) → w_X1_allows 2 u r_2 x1 x2 (fun r_9 => ((¬ r_9 = 0) → (((u 6 1) < (40 : Int32)) → w_X9_shifted r_2 x1 x2 (fun r_13 => w_X9_moveNumber x1 x2 (fun r_15 => w_X2_add 6 r_15 r_13 u (fun u_18 => w_X1_movesOf 2 u_18 r_13 (fun r_19 => w_J13_bitCount_95d88 r_19 (fun r_21 => Q r_21 u_18)))))) ∧ ((¬ (u 6 1) < (40 : Int32)) → w_X9_refused (2 : Int32) (40 : Int32) u (fun r_23 u_24 => Q r_23 u_24))) ∧ ((r_9 = 0) → w_X9_refused (10 : Int32) r_6 u (fun r_25 u_26 => Q r_25 u_26)))) ∧ ((r_6 = 0) → w_X9_refused (9 : Int32) (u 6 1) u (fun r_27 u_28 => Q r_27 u_28)))))) ∧ (((u 6 0) = 0) → w_X9_refused (8 : Int32) (0 : Int32) u (fun r_29 u_30 => Q r_29 u_30))
set_option maxHeartbeats 4000000 in
set_option maxRecDepth 100000 in
theorem c_X9_makeMove (l : Launch) (g : GE) (u : MU) (W : MU × ((Nat → Int64) × (Nat → UInt64))) (x1 : Int32) (x2 : Int32) {Q : Int32 → MU → Prop} (h : w_X9_makeMove x1 x2 u Q) : Met l yX9_makeMove (.code yX9_makeMove cX9_makeMove 7 (Option.some Jvm.ClassFile.FieldType.int) :: TB) rm_X9_makeMove (zPc g (u, W) [.ref (g.2.2.1 0), .int x1, .int x2]) (zQi g (zPx W Q)) 0 0 (zA g) := by
  unfold w_X9_makeMove at h
  refine zMet (own := RX9) [(0, .ref (g.2.2.1 0)), (1, .int x1), (2, .int x2)] (by decide +kernel) rfl (Nat.le_of_ble_eq_true rfl) rfl (fun p e s m args below meth c C hr => ?_)
  refine zm_aload_n C dX9_makeMove_0 rfl 0 rfl ?_
  refine gf_RX9_10 (k1 := 1) C kd_0 rfl dX9_makeMove_1 ?_
  refine gf_RX9_118 (k1 := 6) C kd_1 rfl dX9_makeMove_4 ?_
  refine zm_astore_n (lv' := [(3, .ref (g.2.2.1 6)), (0, .ref (g.2.2.1 0)), (1, .int x1), (2, .int x2)]) C dX9_makeMove_7 rfl (by decide) rfl ?_
  refine zm_aload_n C dX9_makeMove_8 rfl 0 rfl ?_
  refine gf_RX9_122 C kd_6 dX9_makeMove_9 ?_
  refine zm_if_ne (tgt := 23) C dX9_makeMove_12 (by decide) (fun hc_1 => ?_) (fun hc_1 => ?_)
  · have h := h.1 hc_1
    refine zm_aload_n C dX9_makeMove_23 rfl 0 rfl ?_
    refine zm_ci (zr_V (As := []) (rest := []) C (c_X2_lastPosition l g u W 6 kd_6 h) wd_790 wd_791 wd_792 wd_4 wd_793 hy_X2_lastPosition rfl rfl ⟨by decide, by decide⟩ ⟨by decide, by decide⟩ (ci := 2) (by decide) (zCell_k kd_6) rfl rfl rfl rfl (Nat.le_of_ble_eq_true rfl) dX9_makeMove_24) (fun r_2 M1 hq => ?_)
    obtain ⟨rfl, h⟩ := hq
    refine zm_istore (lv' := [(4, .int r_2), (3, .ref (g.2.2.1 6)), (0, .ref (g.2.2.1 0)), (1, .int x1), (2, .int x2)]) C dX9_makeMove_27 (by decide) rfl ?_
    refine zm_aload_n C dX9_makeMove_29 rfl 2 rfl ?_
    refine gf_RX9_10 (k1 := 1) C kd_0 rfl dX9_makeMove_30 ?_
    refine gf_RX9_138 (k1 := 2) C kd_1 rfl dX9_makeMove_33 ?_
    refine zm_iload C dX9_makeMove_36 0 rfl ?_
    refine zm_cl (zr_V (As := [.int r_2]) (rest := []) C (c_X1_movesOf l g u W 2 kd_2 r_2 h) wd_785 wd_612 wd_613 wd_3 wd_614 hy_X1_movesOf rfl rfl ⟨by decide, by decide⟩ ⟨by decide, by decide⟩ (ci := 1) (by decide) (zCell_k kd_2) rfl rfl rfl rfl (Nat.le_of_ble_eq_true rfl) dX9_makeMove_38) (fun r_4 M1 hq => ?_)
    obtain ⟨rfl, h⟩ := hq
    refine zm_ci (zr_Sx (As := [.long r_4]) (rest := []) C (c_J13_bitCount_95d88 l g (u, W) r_4 h) wd_658 wd_637 wd_21 wd_638 hz_J13_bitCount_95d88 rfl rfl ⟨by decide, by decide⟩ ⟨by decide, by decide⟩ rfl rfl (Nat.le_of_ble_eq_true rfl) dX9_makeMove_41) (fun r_6 M1 hq => ?_)
    obtain ⟨rfl, h⟩ := hq
    refine zm_istore (lv' := [(5, .int r_6), (4, .int r_2), (3, .ref (g.2.2.1 6)), (0, .ref (g.2.2.1 0)), (1, .int x1), (2, .int x2)]) C dX9_makeMove_44 (by decide) rfl ?_
    refine zm_iload C dX9_makeMove_46 0 rfl ?_
    refine zm_if_ne (tgt := 62) C dX9_makeMove_48 (by decide) (fun hc_8 => ?_) (fun hc_8 => ?_)
    · have h := h.1 hc_8
      refine zm_aload_n C dX9_makeMove_62 rfl 3 rfl ?_
      refine gf_RX9_10 (k1 := 1) C kd_0 rfl dX9_makeMove_63 ?_
      refine gf_RX9_138 (k1 := 2) C kd_1 rfl dX9_makeMove_66 ?_
      refine zm_iload C dX9_makeMove_69 1 rfl ?_
      refine zm_iload_n C dX9_makeMove_71 rfl 4 rfl ?_
      refine zm_iload_n C dX9_makeMove_72 rfl 5 rfl ?_
      refine zm_ci (zr_V (As := [.int r_2, .int x1, .int x2]) (rest := []) C (c_X1_allows l g u W 2 kd_2 r_2 x1 x2 h) wd_795 wd_796 wd_797 wd_3 wd_798 hy_X1_allows rfl rfl ⟨by decide, by decide⟩ ⟨by decide, by decide⟩ (ci := 1) (by decide) (zCell_k kd_2) rfl rfl rfl rfl (Nat.le_of_ble_eq_true rfl) dX9_makeMove_73) (fun r_9 M1 hq => ?_)
      obtain ⟨rfl, h⟩ := hq
      refine zm_if_ne (tgt := 88) C dX9_makeMove_76 (by decide) (fun hc_11 => ?_) (fun hc_11 => ?_)
      · have h := h.1 hc_11
        refine zm_aload_n C dX9_makeMove_88 rfl 2 rfl ?_
        refine gf_RX9_325 C kd_6 dX9_makeMove_89 ?_
        refine zm_bipush (v := 40) C dX9_makeMove_92 (by decide) ?_
        refine zm_icmp_lt (tgt := 105) C dX9_makeMove_94 (by decide) (fun hc_12 => ?_) (fun hc_12 => ?_)
        · have h := h.1 hc_12
          refine zm_iload C dX9_makeMove_105 1 rfl ?_
          refine zm_iload_n C dX9_makeMove_107 rfl 4 rfl ?_
          refine zm_iload_n C dX9_makeMove_108 rfl 5 rfl ?_
          refine zm_ci (zr_S (As := [.int r_2, .int x1, .int x2]) (rest := []) C (c_X9_shifted l g (u, W) r_2 x1 x2 h) wd_803 wd_669 wd_1 wd_670 hy_X9_shifted rfl rfl ⟨by decide, by decide⟩ ⟨by decide, by decide⟩ rfl rfl (Nat.le_of_ble_eq_true rfl) dX9_makeMove_109) (fun r_13 M1 hq => ?_)
          obtain ⟨rfl, h⟩ := hq
          refine zm_istore (lv' := [(6, .int r_13), (5, .int r_6), (4, .int r_2), (3, .ref (g.2.2.1 6)), (0, .ref (g.2.2.1 0)), (1, .int x1), (2, .int x2)]) C dX9_makeMove_112 (by decide) rfl ?_
          refine zm_aload_n C dX9_makeMove_114 rfl 3 rfl ?_
          refine zm_iload_n C dX9_makeMove_115 rfl 5 rfl ?_
          refine zm_iload_n C dX9_makeMove_116 rfl 6 rfl ?_
          refine zm_ci (zr_S (As := [.int x1, .int x2]) (rest := [.ref (g.2.2.1 6)]) C (c_X9_moveNumber l g (u, W) x1 x2 h) wd_804 wd_801 wd_1 wd_802 hy_X9_moveNumber rfl rfl ⟨by decide, by decide⟩ ⟨by decide, by decide⟩ rfl rfl (Nat.le_of_ble_eq_true rfl) dX9_makeMove_117) (fun r_15 M1 hq => ?_)
          obtain ⟨rfl, h⟩ := hq
          refine zm_iload C dX9_makeMove_120 0 rfl ?_
          refine zm_cv (zr_V (As := [.int r_15, .int r_13]) (rest := []) C (c_X2_add l g u W 6 kd_6 r_15 r_13 h) wd_805 wd_806 wd_807 wd_4 wd_808 hy_X2_add rfl rfl ⟨by decide, by decide⟩ ⟨by decide, by decide⟩ (ci := 2) (by decide) (zCell_k kd_6) rfl rfl rfl rfl (Nat.le_of_ble_eq_true rfl) dX9_makeMove_122) (fun M1 hq => ?_)
          obtain ⟨u_18, rfl, h⟩ := hq
          refine zm_aload_n C dX9_makeMove_125 rfl 4 rfl ?_
          refine gf_RX9_10 (k1 := 1) C kd_0 rfl dX9_makeMove_126 ?_
          refine gf_RX9_138 (k1 := 2) C kd_1 rfl dX9_makeMove_129 ?_
          refine zm_iload C dX9_makeMove_132 0 rfl ?_
          refine zm_cl (zr_V (As := [.int r_13]) (rest := []) C (c_X1_movesOf l g u_18 W 2 kd_2 r_13 h) wd_785 wd_612 wd_613 wd_3 wd_614 hy_X1_movesOf rfl rfl ⟨by decide, by decide⟩ ⟨by decide, by decide⟩ (ci := 1) (by decide) (zCell_k kd_2) rfl rfl rfl rfl (Nat.le_of_ble_eq_true rfl) dX9_makeMove_134) (fun r_19 M1 hq => ?_)
          obtain ⟨rfl, h⟩ := hq
          refine zm_ci (zr_Sx (As := [.long r_19]) (rest := []) C (c_J13_bitCount_95d88 l g (u_18, W) r_19 h) wd_658 wd_637 wd_21 wd_638 hz_J13_bitCount_95d88 rfl rfl ⟨by decide, by decide⟩ ⟨by decide, by decide⟩ rfl rfl (Nat.le_of_ble_eq_true rfl) dX9_makeMove_137) (fun r_21 M1 hq => ?_)
          obtain ⟨rfl, h⟩ := hq
          exact zm_iret C hr dX9_makeMove_140 ⟨_, rfl, h⟩
        · have h := h.2 hc_12
          refine zm_aload_n C dX9_makeMove_97 rfl 3 rfl ?_
          refine zm_iconst (v := 2) C dX9_makeMove_98 (by decide) ?_
          refine zm_bipush (v := 40) C dX9_makeMove_99 (by decide) ?_
          refine zm_ci (zr_V (As := [.int (2 : Int32), .int (40 : Int32)]) (rest := []) C (c_X9_refused l g u W (2 : Int32) (40 : Int32) h) wd_351 wd_353 wp_2 wd_1 wd_354 hy_X9_refused rfl rfl ⟨by decide, by decide⟩ ⟨by decide, by decide⟩ (ci := 9) (by decide) (zCell_k kd_0) rfl rfl rfl rfl (Nat.le_of_ble_eq_true rfl) dX9_makeMove_101) (fun r_23 M1 hq => ?_)
          obtain ⟨u_24, rfl, h⟩ := hq
          exact zm_iret C hr dX9_makeMove_104 ⟨_, rfl, h⟩
      · have h := h.2 hc_11
        refine zm_aload_n C dX9_makeMove_79 rfl 3 rfl ?_
        refine zm_bipush (v := 10) C dX9_makeMove_80 (by decide) ?_
        refine zm_iload C dX9_makeMove_82 0 rfl ?_
        refine zm_ci (zr_V (As := [.int (10 : Int32), .int r_6]) (rest := []) C (c_X9_refused l g u W (10 : Int32) r_6 h) wd_351 wd_353 wp_2 wd_1 wd_354 hy_X9_refused rfl rfl ⟨by decide, by decide⟩ ⟨by decide, by decide⟩ (ci := 9) (by decide) (zCell_k kd_0) rfl rfl rfl rfl (Nat.le_of_ble_eq_true rfl) dX9_makeMove_84) (fun r_25 M1 hq => ?_)
        obtain ⟨u_26, rfl, h⟩ := hq
        exact zm_iret C hr dX9_makeMove_87 ⟨_, rfl, h⟩
    · have h := h.2 hc_8
      refine zm_aload_n C dX9_makeMove_51 rfl 3 rfl ?_
      refine zm_bipush (v := 9) C dX9_makeMove_52 (by decide) ?_
      refine zm_aload_n C dX9_makeMove_54 rfl 2 rfl ?_
      refine gf_RX9_325 C kd_6 dX9_makeMove_55 ?_
      refine zm_ci (zr_V (As := [.int (9 : Int32), .int (u 6 1)]) (rest := []) C (c_X9_refused l g u W (9 : Int32) (u 6 1) h) wd_351 wd_353 wp_2 wd_1 wd_354 hy_X9_refused rfl rfl ⟨by decide, by decide⟩ ⟨by decide, by decide⟩ (ci := 9) (by decide) (zCell_k kd_0) rfl rfl rfl rfl (Nat.le_of_ble_eq_true rfl) dX9_makeMove_58) (fun r_27 M1 hq => ?_)
      obtain ⟨u_28, rfl, h⟩ := hq
      exact zm_iret C hr dX9_makeMove_61 ⟨_, rfl, h⟩
  · have h := h.2 hc_1
    refine zm_aload_n C dX9_makeMove_15 rfl 1 rfl ?_
    refine zm_bipush (v := 8) C dX9_makeMove_16 (by decide) ?_
    refine zm_iconst (v := 0) C dX9_makeMove_18 (by decide) ?_
    refine zm_ci (zr_V (As := [.int (8 : Int32), .int (0 : Int32)]) (rest := []) C (c_X9_refused l g u W (8 : Int32) (0 : Int32) h) wd_351 wd_353 wp_2 wd_1 wd_354 hy_X9_refused rfl rfl ⟨by decide, by decide⟩ ⟨by decide, by decide⟩ (ci := 9) (by decide) (zCell_k kd_0) rfl rfl rfl rfl (Nat.le_of_ble_eq_true rfl) dX9_makeMove_19) (fun r_29 M1 hq => ?_)
    obtain ⟨u_30, rfl, h⟩ := hq
    exact zm_iret C hr dX9_makeMove_22 ⟨_, rfl, h⟩
abbrev rm_X9_move : Room := { frames := 7, cells := 1, slots := 6, locals := 306 }
def w_X9_move (x1 : Int32) (x2 : Int32) (u : MU) (Q : Int32 → MU → Prop) (X : String → MU → Prop) : Prop := w_X9_setAside  u (fun u_2 => w_X9_makeMove x1 x2 u_2 (fun r_3 u_4 => w_X9_settled r_3 u_4 (fun r_5 u_6 => Q r_5 u_6) X))
set_option maxHeartbeats 4000000 in
set_option maxRecDepth 100000 in
theorem c_X9_move (l : Launch) (hstk : l.stackTraces = false) (g : GE) (u : MU) (W : MU × ((Nat → Int64) × (Nat → UInt64))) (x1 : Int32) (x2 : Int32) {Q : Int32 → MU → Prop} {X : String → MU → Prop} (h : w_X9_move x1 x2 u Q X) : vx_Met l yX9_move (.code yX9_move cX9_move 3 (Option.some Jvm.ClassFile.FieldType.int) :: TB) rm_X9_move (zPc g (u, W) [.ref (g.2.2.1 0), .int x1, .int x2]) (zQi g (zPx W Q)) (zXC g (zXx W X)) 1 6 (zA g) := by
  unfold w_X9_move at h
  refine zMetX (own := RX9) [(0, .ref (g.2.2.1 0)), (1, .int x1), (2, .int x2)] (by decide +kernel) rfl (Nat.le_of_ble_eq_true rfl) rfl (fun p e s m args below meth c C hr ht => ?_)
  refine zm_aload_n C dX9_move_0 rfl 0 rfl ?_
  refine zm_cv (zr_V (As := []) (rest := []) C (c_X9_setAside l g u W  h) wd_343 wd_345 wp_0 wd_1 wd_346 hy_X9_setAside rfl rfl ⟨by decide, by decide⟩ ⟨by decide, by decide⟩ (ci := 9) (by decide) (zCell_k kd_0) rfl rfl rfl rfl (Nat.le_of_ble_eq_true rfl) dX9_move_1) (fun M1 hq => ?_)
  obtain ⟨u_2, rfl, h⟩ := hq
  refine zm_aload_n C dX9_move_4 rfl 0 rfl ?_
  refine zm_aload_n C dX9_move_5 rfl 0 rfl ?_
  refine zm_iload_n C dX9_move_6 rfl 1 rfl ?_
  refine zm_iload_n C dX9_move_7 rfl 2 rfl ?_
  refine zm_ci (zr_V (As := [.int x1, .int x2]) (rest := [.ref (g.2.2.1 0)]) C (c_X9_makeMove l g u_2 W x1 x2 h) wd_786 wd_788 wp_22 wd_1 wd_789 hy_X9_makeMove rfl rfl ⟨by decide, by decide⟩ ⟨by decide, by decide⟩ (ci := 9) (by decide) (zCell_k kd_0) rfl rfl rfl rfl (Nat.le_of_ble_eq_true rfl) dX9_move_8) (fun r_3 M1 hq => ?_)
  obtain ⟨u_4, rfl, h⟩ := hq
  refine zx_ci (zrX_V (As := [.int r_3]) (rest := []) C (c_X9_settled l hstk g u_4 W r_3 h) wd_363 wd_365 wp_5 wd_1 wd_366 hy_X9_settled rfl rfl ⟨by decide, by decide⟩ ⟨by decide, by decide⟩ (ci := 9) (by decide) (zCell_k kd_0) rfl rfl rfl rfl (Nat.le_of_ble_eq_true rfl) dX9_move_11) (fun E M1 hq => ?_) (fun r_5 M1 hq => ?_)
  · obtain ⟨u_6, rfl, h⟩ := hq
    exact zm_out C ht (by decide) (by decide) ⟨_, rfl, h⟩
  · obtain ⟨u_6, rfl, h⟩ := hq
    refine zm_vx (by decide) (by decide) ?_
    exact zm_iret C hr dX9_move_14 ⟨_, rfl, h⟩
abbrev rm_X9_letPlay : Room := { frames := 4, cells := 0, slots := 0, locals := 107 }
def wb_X9_letPlay_19 (Q : Int32 → MU → Prop) (u : MU) : Prop := w_X9_refused (1 : Int32) (0 : Int32) u (fun r_1 u_2 => Q r_1 u_2)
set_option maxHeartbeats 4000000 in
set_option maxRecDepth 100000 in
theorem vb_X9_letPlay_19 {p : Program} {l : Launch} {e : Env} {s : State} {m : MethodId} {args : Array Value} {below : List Frame} {meth : Method} {c : Code} {g : GE} {W : MU × ((Nat → Int64) × (Nat → UInt64))} {Q : Int32 → MU → Prop} (C : zCx p l s m args meth c g RX9 cX9_letPlay 6) (hr : meth.sig.returnType = (Option.some Jvm.ClassFile.FieldType.int)) (u : MU) (h : wb_X9_letPlay_19   Q  u) : WM p l e rm_X9_letPlay s m args below meth c g 6 0 0 (MQ below (zQi g (zPx W Q)) args s 0 0 (zA g)) 19 [(0, .ref (g.2.2.1 0))] [] (u, W) := by
  unfold wb_X9_letPlay_19 at h
  refine zm_aload_n C dX9_letPlay_19 rfl 0 rfl ?_
  refine zm_iconst (v := 1) C dX9_letPlay_20 (by decide) ?_
  refine zm_iconst (v := 0) C dX9_letPlay_21 (by decide) ?_
  refine zm_ci (zr_V (As := [.int (1 : Int32), .int (0 : Int32)]) (rest := []) C (c_X9_refused l g u W (1 : Int32) (0 : Int32) h) wd_351 wd_353 wp_2 wd_1 wd_354 hy_X9_refused rfl rfl ⟨by decide, by decide⟩ ⟨by decide, by decide⟩ (ci := 9) (by decide) (zCell_k kd_0) rfl rfl rfl rfl (Nat.le_of_ble_eq_true rfl) dX9_letPlay_22) (fun r_1 M1 hq => ?_)
  obtain ⟨u_2, rfl, h⟩ := hq
  exact zm_iret C hr dX9_letPlay_25 ⟨_, rfl, h⟩
def wl_X9_letPlay_104 (Q : Int32 → MU → Prop) : Nat → Int32 → Int32 → MU → Prop
  | 0, _, _, _ => False
  | n + 1, x1, x3, u => ((x1 ≤ x3) → Q x3 u) ∧ ((¬ x1 ≤ x3) → (((40 : Int32) ≤ (u 6 1)) → Q x3 u) ∧ ((¬ (40 : Int32) ≤ (u 6 1)) → w_X2_lastPosition 6 u (fun r_3 => w_X7_bestMove 95 2 u r_3 (fun r_5 => ((¬ r_5 = (-1 : Int32)) → w_X9_fromOf r_5 (fun r_8 => w_X9_toOf r_5 (fun r_10 => w_X9_shifted r_3 r_8 r_10 (fun r_12 => w_X2_add 6 r_5 r_12 u (fun u_15 => ∀ x3_16, x3_16 = x3 + (1 : Int32) → wl_X9_letPlay_104   Q n x1 x3_16 u_15))))) ∧ ((r_5 = (-1 : Int32)) → Q x3 u)))))
set_option maxHeartbeats 4000000 in
set_option maxRecDepth 100000 in
theorem vl_X9_letPlay_104 {p : Program} {l : Launch} {e : Env} {s : State} {m : MethodId} {args : Array Value} {below : List Frame} {meth : Method} {c : Code} {g : GE} {W : MU × ((Nat → Int64) × (Nat → UInt64))} {Q : Int32 → MU → Prop} (C : zCx p l s m args meth c g RX9 cX9_letPlay 6) (hr : meth.sig.returnType = (Option.some Jvm.ClassFile.FieldType.int)) : ∀ (n : Nat) (x1 : Int32) (x3 : Int32) (u : MU) , wl_X9_letPlay_104   Q n x1 x3 u → WM p l e rm_X9_letPlay s m args below meth c g 6 0 0 (MQ below (zQi g (zPx W Q)) args s 0 0 (zA g)) 104 [(0, .ref (g.2.2.1 0)), (1, .int x1), (2, .ref (g.2.2.1 6)), (3, .int x3)] [] (u, W) := by
  intro n
  induction n with
  | zero => intro _ _ _ h; exact h.elim
  | succ n ih =>
    intro x1 x3 u h
    unfold wl_X9_letPlay_104 at h
    refine zm_iload_n C dX9_letPlay_104 rfl 3 rfl ?_
    refine zm_iload_n C dX9_letPlay_105 rfl 1 rfl ?_
    refine zm_icmp_ge (tgt := 178) C dX9_letPlay_106 (by decide) (fun hc_1 => ?_) (fun hc_1 => ?_)
    · have h := h.1 hc_1
      refine zm_iload_n C dX9_letPlay_178 rfl 3 rfl ?_
      exact zm_iret C hr dX9_letPlay_179 ⟨_, rfl, h⟩
    · have h := h.2 hc_1
      refine zm_aload_n C dX9_letPlay_109 rfl 2 rfl ?_
      refine gf_RX9_325 C kd_6 dX9_letPlay_110 ?_
      refine zm_bipush (v := 40) C dX9_letPlay_113 (by decide) ?_
      refine zm_icmp_ge (tgt := 178) C dX9_letPlay_115 (by decide) (fun hc_2 => ?_) (fun hc_2 => ?_)
      · have h := h.1 hc_2
        refine zm_iload_n C dX9_letPlay_178 rfl 3 rfl ?_
        exact zm_iret C hr dX9_letPlay_179 ⟨_, rfl, h⟩
      · have h := h.2 hc_2
        refine zm_aload_n C dX9_letPlay_118 rfl 2 rfl ?_
        refine zm_ci (zr_V (As := []) (rest := []) C (c_X2_lastPosition l g u W 6 kd_6 h) wd_790 wd_791 wd_792 wd_4 wd_793 hy_X2_lastPosition rfl rfl ⟨by decide, by decide⟩ ⟨by decide, by decide⟩ (ci := 2) (by decide) (zCell_k kd_6) rfl rfl rfl rfl (Nat.le_of_ble_eq_true rfl) dX9_letPlay_119) (fun r_3 M1 hq => ?_)
        obtain ⟨rfl, h⟩ := hq
        refine zm_istore (lv' := [(4, .int r_3), (0, .ref (g.2.2.1 0)), (1, .int x1), (2, .ref (g.2.2.1 6)), (3, .int x3)]) C dX9_letPlay_122 (by decide) rfl ?_
        refine zm_aload_n C dX9_letPlay_124 rfl 1 rfl ?_
        refine gf_RX9_39 (k1 := 95) C kd_0 rfl dX9_letPlay_125 ?_
        refine zm_aload_n C dX9_letPlay_128 rfl 1 rfl ?_
        refine gf_RX9_10 (k1 := 1) C kd_0 rfl dX9_letPlay_129 ?_
        refine gf_RX9_138 (k1 := 2) C kd_1 rfl dX9_letPlay_132 ?_
        refine zm_iload C dX9_letPlay_135 0 rfl ?_
        refine zm_ci (zr_V (As := [.ref (g.2.2.1 2), .int r_3]) (rest := []) C (c_X7_bestMove l g u W 95 2 kd_95 kd_2 r_3 h) wd_813 wd_814 wd_815 wd_6 wd_816 hy_X7_bestMove rfl rfl ⟨by decide, by decide⟩ ⟨by decide, by decide⟩ (ci := 7) (by decide) (zCell_k kd_95) rfl rfl rfl rfl (Nat.le_of_ble_eq_true rfl) dX9_letPlay_137) (fun r_5 M1 hq => ?_)
        obtain ⟨rfl, h⟩ := hq
        refine zm_istore (lv' := [(5, .int r_5), (4, .int r_3), (0, .ref (g.2.2.1 0)), (1, .int x1), (2, .ref (g.2.2.1 6)), (3, .int x3)]) C dX9_letPlay_140 (by decide) rfl ?_
        refine zm_iload C dX9_letPlay_142 0 rfl ?_
        refine zm_iconst (v := -1) C dX9_letPlay_144 (by decide) ?_
        refine zm_icmp_ne (tgt := 151) C dX9_letPlay_145 (by decide) (fun hc_7 => ?_) (fun hc_7 => ?_)
        · have h := h.1 hc_7
          refine zm_aload_n C dX9_letPlay_151 rfl 4 rfl ?_
          refine zm_iload C dX9_letPlay_152 0 rfl ?_
          refine zm_iload C dX9_letPlay_154 1 rfl ?_
          refine zm_iload C dX9_letPlay_156 0 rfl ?_
          refine zm_ci (zr_S (As := [.int r_5]) (rest := [.int r_3, .int r_5, .ref (g.2.2.1 6)]) C (c_X9_fromOf l g (u, W) r_5 h) wd_817 wd_663 wd_1 wd_664 hy_X9_fromOf rfl rfl ⟨by decide, by decide⟩ ⟨by decide, by decide⟩ rfl rfl (Nat.le_of_ble_eq_true rfl) dX9_letPlay_158) (fun r_8 M1 hq => ?_)
          obtain ⟨rfl, h⟩ := hq
          refine zm_iload C dX9_letPlay_161 0 rfl ?_
          refine zm_ci (zr_S (As := [.int r_5]) (rest := [.int r_8, .int r_3, .int r_5, .ref (g.2.2.1 6)]) C (c_X9_toOf l g (u, W) r_5 h) wd_818 wd_666 wd_1 wd_667 hy_X9_toOf rfl rfl ⟨by decide, by decide⟩ ⟨by decide, by decide⟩ rfl rfl (Nat.le_of_ble_eq_true rfl) dX9_letPlay_163) (fun r_10 M1 hq => ?_)
          obtain ⟨rfl, h⟩ := hq
          refine zm_ci (zr_S (As := [.int r_3, .int r_8, .int r_10]) (rest := [.int r_5, .ref (g.2.2.1 6)]) C (c_X9_shifted l g (u, W) r_3 r_8 r_10 h) wd_803 wd_669 wd_1 wd_670 hy_X9_shifted rfl rfl ⟨by decide, by decide⟩ ⟨by decide, by decide⟩ rfl rfl (Nat.le_of_ble_eq_true rfl) dX9_letPlay_166) (fun r_12 M1 hq => ?_)
          obtain ⟨rfl, h⟩ := hq
          refine zm_cv (zr_V (As := [.int r_5, .int r_12]) (rest := []) C (c_X2_add l g u W 6 kd_6 r_5 r_12 h) wd_805 wd_806 wd_807 wd_4 wd_808 hy_X2_add rfl rfl ⟨by decide, by decide⟩ ⟨by decide, by decide⟩ (ci := 2) (by decide) (zCell_k kd_6) rfl rfl rfl rfl (Nat.le_of_ble_eq_true rfl) dX9_letPlay_169) (fun M1 hq => ?_)
          obtain ⟨u_15, rfl, h⟩ := hq
          obtain ⟨x3_16, hx3_16⟩ : ∃ z, z = x3 + (1 : Int32) := ⟨_, rfl⟩
          have h := h x3_16 hx3_16
          refine zm_iinc (v := x3_16) (lv' := [(3, .int x3_16), (5, .int r_5), (4, .int r_3), (0, .ref (g.2.2.1 0)), (1, .int x1), (2, .ref (g.2.2.1 6))]) C dX9_letPlay_172 5 rfl (by rw [hx3_16]; rfl) (by decide) rfl ?_
          refine zm_goto (tgt := 104) C dX9_letPlay_175 (by decide) ?_
          exact zm_sub [3, 4, 5, 0] rfl (ih _ _ _ h)
        · have h := h.2 hc_7
          refine zm_goto (tgt := 178) C dX9_letPlay_148 (by decide) ?_
          refine zm_iload_n C dX9_letPlay_178 rfl 5 rfl ?_
          exact zm_iret C hr dX9_letPlay_179 ⟨_, rfl, h⟩
def w_X9_letPlay (x1 : Int32) (u : MU) (Q : Int32 → MU → Prop) : Prop := ((x1 < (1 : Int32)) → wb_X9_letPlay_19   Q u) ∧ ((¬ x1 < (1 : Int32)) → ((x1 ≤ (40 : Int32)) → ((¬ (u 6 0) = 0) → w_X2_lastPosition 6 u (fun r_4 => w_X1_movesOf 2 u r_4 (fun r_6 => ((¬ (lg_cmp r_6 (0 : Int64)) = 0) → (((u 6 1) < (40 : Int32)) → w_X7_solve 95 2 u (fun u_11 => ∃ nn, wl_X9_letPlay_104   Q nn x1 (0 : Int32) u_11)) ∧ ((¬ (u 6 1) < (40 : Int32)) → w_X9_refused (2 : Int32) (40 : Int32) u (fun r_12 u_13 => Q r_12 u_13))) ∧ (((lg_cmp r_6 (0 : Int64)) = 0) → w_X9_refused (9 : Int32) (u 6 1) u (fun r_14 u_15 => Q r_14 u_15))))) ∧ (((u 6 0) = 0) → w_X9_refused (8 : Int32) (0 : Int32) u (fun r_16 u_17 => Q r_16 u_17))) ∧ ((¬ x1 ≤ (40 : Int32)) → wb_X9_letPlay_19   Q u))
set_option maxHeartbeats 4000000 in
set_option maxRecDepth 100000 in
theorem c_X9_letPlay (l : Launch) (g : GE) (u : MU) (W : MU × ((Nat → Int64) × (Nat → UInt64))) (x1 : Int32) {Q : Int32 → MU → Prop} (h : w_X9_letPlay x1 u Q) : Met l yX9_letPlay (.code yX9_letPlay cX9_letPlay 6 (Option.some Jvm.ClassFile.FieldType.int) :: TB) rm_X9_letPlay (zPc g (u, W) [.ref (g.2.2.1 0), .int x1]) (zQi g (zPx W Q)) 0 0 (zA g) := by
  unfold w_X9_letPlay at h
  refine zMet (own := RX9) [(0, .ref (g.2.2.1 0)), (1, .int x1)] (by decide +kernel) rfl (Nat.le_of_ble_eq_true rfl) rfl (fun p e s m args below meth c C hr => ?_)
  refine zm_aload_n C dX9_letPlay_0 rfl 0 rfl ?_
  refine gf_RX9_10 (k1 := 1) C kd_0 rfl dX9_letPlay_1 ?_
  refine gf_RX9_118 (k1 := 6) C kd_1 rfl dX9_letPlay_4 ?_
  refine zm_astore_n (lv' := [(2, .ref (g.2.2.1 6)), (0, .ref (g.2.2.1 0)), (1, .int x1)]) C dX9_letPlay_7 rfl (by decide) rfl ?_
  refine zm_iload_n C dX9_letPlay_8 rfl 2 rfl ?_
  refine zm_iconst (v := 1) C dX9_letPlay_9 (by decide) ?_
  refine zm_icmp_lt (tgt := 19) C dX9_letPlay_10 (by decide) (fun hc_1 => ?_) (fun hc_1 => ?_)
  · have h := h.1 hc_1
    exact zm_sub [1] rfl (vb_X9_letPlay_19 C hr  _ h)
  · have h := h.2 hc_1
    refine zm_iload_n C dX9_letPlay_13 rfl 2 rfl ?_
    refine zm_bipush (v := 40) C dX9_letPlay_14 (by decide) ?_
    refine zm_icmp_le (tgt := 26) C dX9_letPlay_16 (by decide) (fun hc_2 => ?_) (fun hc_2 => ?_)
    · have h := h.1 hc_2
      refine zm_aload_n C dX9_letPlay_26 rfl 0 rfl ?_
      refine gf_RX9_122 C kd_6 dX9_letPlay_27 ?_
      refine zm_if_ne (tgt := 41) C dX9_letPlay_30 (by decide) (fun hc_3 => ?_) (fun hc_3 => ?_)
      · have h := h.1 hc_3
        refine zm_aload_n C dX9_letPlay_41 rfl 1 rfl ?_
        refine gf_RX9_10 (k1 := 1) C kd_0 rfl dX9_letPlay_42 ?_
        refine gf_RX9_138 (k1 := 2) C kd_1 rfl dX9_letPlay_45 ?_
        refine zm_aload_n C dX9_letPlay_48 rfl 0 rfl ?_
        refine zm_ci (zr_V (As := []) (rest := [.ref (g.2.2.1 2)]) C (c_X2_lastPosition l g u W 6 kd_6 h) wd_790 wd_791 wd_792 wd_4 wd_793 hy_X2_lastPosition rfl rfl ⟨by decide, by decide⟩ ⟨by decide, by decide⟩ (ci := 2) (by decide) (zCell_k kd_6) rfl rfl rfl rfl (Nat.le_of_ble_eq_true rfl) dX9_letPlay_49) (fun r_4 M1 hq => ?_)
        obtain ⟨rfl, h⟩ := hq
        refine zm_cl (zr_V (As := [.int r_4]) (rest := []) C (c_X1_movesOf l g u W 2 kd_2 r_4 h) wd_785 wd_612 wd_613 wd_3 wd_614 hy_X1_movesOf rfl rfl ⟨by decide, by decide⟩ ⟨by decide, by decide⟩ (ci := 1) (by decide) (zCell_k kd_2) rfl rfl rfl rfl (Nat.le_of_ble_eq_true rfl) dX9_letPlay_52) (fun r_6 M1 hq => ?_)
        obtain ⟨rfl, h⟩ := hq
        refine zm_lconst (v := 0) C dX9_letPlay_55 (by decide) ?_
        refine zm_lcmp C dX9_letPlay_56 ?_
        refine zm_if_ne (tgt := 71) C dX9_letPlay_57 (by decide) (fun hc_8 => ?_) (fun hc_8 => ?_)
        · have h := h.1 hc_8
          refine zm_aload_n C dX9_letPlay_71 rfl 0 rfl ?_
          refine gf_RX9_325 C kd_6 dX9_letPlay_72 ?_
          refine zm_bipush (v := 40) C dX9_letPlay_75 (by decide) ?_
          refine zm_icmp_lt (tgt := 88) C dX9_letPlay_77 (by decide) (fun hc_9 => ?_) (fun hc_9 => ?_)
          · have h := h.1 hc_9
            refine zm_aload_n C dX9_letPlay_88 rfl 1 rfl ?_
            refine gf_RX9_39 (k1 := 95) C kd_0 rfl dX9_letPlay_89 ?_
            refine zm_aload_n C dX9_letPlay_92 rfl 1 rfl ?_
            refine gf_RX9_10 (k1 := 1) C kd_0 rfl dX9_letPlay_93 ?_
            refine gf_RX9_138 (k1 := 2) C kd_1 rfl dX9_letPlay_96 ?_
            refine zm_cv (zr_V (As := [.ref (g.2.2.1 2)]) (rest := []) C (c_X7_solve l g u W 95 2 kd_95 kd_2 h) wd_594 wd_595 wd_596 wd_6 wd_597 hy_X7_solve rfl rfl ⟨by decide, by decide⟩ ⟨by decide, by decide⟩ (ci := 7) (by decide) (zCell_k kd_95) rfl rfl rfl rfl (Nat.le_of_ble_eq_true rfl) dX9_letPlay_99) (fun M1 hq => ?_)
            obtain ⟨u_11, rfl, h⟩ := hq
            refine zm_iconst (v := 0) C dX9_letPlay_102 (by decide) ?_
            refine zm_istore_n (lv' := [(3, .int (0 : Int32)), (2, .ref (g.2.2.1 6)), (0, .ref (g.2.2.1 0)), (1, .int x1)]) C dX9_letPlay_103 rfl (by decide) rfl ?_
            obtain ⟨nn, h⟩ := h
            exact zm_sub [2, 3, 1, 0] rfl (vl_X9_letPlay_104 C hr  nn _ _ _ h)
          · have h := h.2 hc_9
            refine zm_aload_n C dX9_letPlay_80 rfl 1 rfl ?_
            refine zm_iconst (v := 2) C dX9_letPlay_81 (by decide) ?_
            refine zm_bipush (v := 40) C dX9_letPlay_82 (by decide) ?_
            refine zm_ci (zr_V (As := [.int (2 : Int32), .int (40 : Int32)]) (rest := []) C (c_X9_refused l g u W (2 : Int32) (40 : Int32) h) wd_351 wd_353 wp_2 wd_1 wd_354 hy_X9_refused rfl rfl ⟨by decide, by decide⟩ ⟨by decide, by decide⟩ (ci := 9) (by decide) (zCell_k kd_0) rfl rfl rfl rfl (Nat.le_of_ble_eq_true rfl) dX9_letPlay_84) (fun r_12 M1 hq => ?_)
            obtain ⟨u_13, rfl, h⟩ := hq
            exact zm_iret C hr dX9_letPlay_87 ⟨_, rfl, h⟩
        · have h := h.2 hc_8
          refine zm_aload_n C dX9_letPlay_60 rfl 1 rfl ?_
          refine zm_bipush (v := 9) C dX9_letPlay_61 (by decide) ?_
          refine zm_aload_n C dX9_letPlay_63 rfl 0 rfl ?_
          refine gf_RX9_325 C kd_6 dX9_letPlay_64 ?_
          refine zm_ci (zr_V (As := [.int (9 : Int32), .int (u 6 1)]) (rest := []) C (c_X9_refused l g u W (9 : Int32) (u 6 1) h) wd_351 wd_353 wp_2 wd_1 wd_354 hy_X9_refused rfl rfl ⟨by decide, by decide⟩ ⟨by decide, by decide⟩ (ci := 9) (by decide) (zCell_k kd_0) rfl rfl rfl rfl (Nat.le_of_ble_eq_true rfl) dX9_letPlay_67) (fun r_14 M1 hq => ?_)
          obtain ⟨u_15, rfl, h⟩ := hq
          exact zm_iret C hr dX9_letPlay_70 ⟨_, rfl, h⟩
      · have h := h.2 hc_3
        refine zm_aload_n C dX9_letPlay_33 rfl 1 rfl ?_
        refine zm_bipush (v := 8) C dX9_letPlay_34 (by decide) ?_
        refine zm_iconst (v := 0) C dX9_letPlay_36 (by decide) ?_
        refine zm_ci (zr_V (As := [.int (8 : Int32), .int (0 : Int32)]) (rest := []) C (c_X9_refused l g u W (8 : Int32) (0 : Int32) h) wd_351 wd_353 wp_2 wd_1 wd_354 hy_X9_refused rfl rfl ⟨by decide, by decide⟩ ⟨by decide, by decide⟩ (ci := 9) (by decide) (zCell_k kd_0) rfl rfl rfl rfl (Nat.le_of_ble_eq_true rfl) dX9_letPlay_37) (fun r_16 M1 hq => ?_)
        obtain ⟨u_17, rfl, h⟩ := hq
        exact zm_iret C hr dX9_letPlay_40 ⟨_, rfl, h⟩
    · have h := h.2 hc_2
      exact zm_sub [1] rfl (vb_X9_letPlay_19 C hr  _ h)
abbrev rm_X9_play : Room := { frames := 7, cells := 1, slots := 6, locals := 306 }
def w_X9_play (x1 : Int32) (u : MU) (Q : Int32 → MU → Prop) (X : String → MU → Prop) : Prop := w_X9_setAside  u (fun u_2 => w_X9_letPlay x1 u_2 (fun r_3 u_4 => w_X9_settled r_3 u_4 (fun r_5 u_6 => Q r_5 u_6) X))
set_option maxHeartbeats 4000000 in
set_option maxRecDepth 100000 in
theorem c_X9_play (l : Launch) (hstk : l.stackTraces = false) (g : GE) (u : MU) (W : MU × ((Nat → Int64) × (Nat → UInt64))) (x1 : Int32) {Q : Int32 → MU → Prop} {X : String → MU → Prop} (h : w_X9_play x1 u Q X) : vx_Met l yX9_play (.code yX9_play cX9_play 2 (Option.some Jvm.ClassFile.FieldType.int) :: TB) rm_X9_play (zPc g (u, W) [.ref (g.2.2.1 0), .int x1]) (zQi g (zPx W Q)) (zXC g (zXx W X)) 1 6 (zA g) := by
  unfold w_X9_play at h
  refine zMetX (own := RX9) [(0, .ref (g.2.2.1 0)), (1, .int x1)] (by decide +kernel) rfl (Nat.le_of_ble_eq_true rfl) rfl (fun p e s m args below meth c C hr ht => ?_)
  refine zm_aload_n C dX9_play_0 rfl 0 rfl ?_
  refine zm_cv (zr_V (As := []) (rest := []) C (c_X9_setAside l g u W  h) wd_343 wd_345 wp_0 wd_1 wd_346 hy_X9_setAside rfl rfl ⟨by decide, by decide⟩ ⟨by decide, by decide⟩ (ci := 9) (by decide) (zCell_k kd_0) rfl rfl rfl rfl (Nat.le_of_ble_eq_true rfl) dX9_play_1) (fun M1 hq => ?_)
  obtain ⟨u_2, rfl, h⟩ := hq
  refine zm_aload_n C dX9_play_4 rfl 0 rfl ?_
  refine zm_aload_n C dX9_play_5 rfl 0 rfl ?_
  refine zm_iload_n C dX9_play_6 rfl 1 rfl ?_
  refine zm_ci (zr_V (As := [.int x1]) (rest := [.ref (g.2.2.1 0)]) C (c_X9_letPlay l g u_2 W x1 h) wd_809 wd_811 wp_23 wd_1 wd_812 hy_X9_letPlay rfl rfl ⟨by decide, by decide⟩ ⟨by decide, by decide⟩ (ci := 9) (by decide) (zCell_k kd_0) rfl rfl rfl rfl (Nat.le_of_ble_eq_true rfl) dX9_play_7) (fun r_3 M1 hq => ?_)
  obtain ⟨u_4, rfl, h⟩ := hq
  refine zx_ci (zrX_V (As := [.int r_3]) (rest := []) C (c_X9_settled l hstk g u_4 W r_3 h) wd_363 wd_365 wp_5 wd_1 wd_366 hy_X9_settled rfl rfl ⟨by decide, by decide⟩ ⟨by decide, by decide⟩ (ci := 9) (by decide) (zCell_k kd_0) rfl rfl rfl rfl (Nat.le_of_ble_eq_true rfl) dX9_play_10) (fun E M1 hq => ?_) (fun r_5 M1 hq => ?_)
  · obtain ⟨u_6, rfl, h⟩ := hq
    exact zm_out C ht (by decide) (by decide) ⟨_, rfl, h⟩
  · obtain ⟨u_6, rfl, h⟩ := hq
    refine zm_vx (by decide) (by decide) ?_
    exact zm_iret C hr dX9_play_13 ⟨_, rfl, h⟩
abbrev rm_X9_takeBack : Room := { frames := 1, cells := 0, slots := 0, locals := 22 }
def w_X9_takeBack (u : MU) (Q : Int32 → MU → Prop) : Prop := ((¬ (u 6 0) = 0) → ((¬ (u 6 1) = 0) → (∀ u_3, u_3 = u2 u 6 1 ((u 6 1) - (1 : Int32)) → Q (u_3 6 1) u_3)) ∧ (((u 6 1) = 0) → w_X9_refused (11 : Int32) (0 : Int32) u (fun r_4 u_5 => Q r_4 u_5))) ∧ (((u 6 0) = 0) → w_X9_refused (8 : Int32) (0 : Int32) u (fun r_6 u_7 => Q r_6 u_7))
set_option maxHeartbeats 4000000 in
set_option maxRecDepth 100000 in
theorem c_X9_takeBack (l : Launch) (g : GE) (u : MU) (W : MU × ((Nat → Int64) × (Nat → UInt64))) {Q : Int32 → MU → Prop} (h : w_X9_takeBack u Q) : Met l yX9_takeBack (.code yX9_takeBack cX9_takeBack 2 (Option.some Jvm.ClassFile.FieldType.int) :: TB) rm_X9_takeBack (zPc g (u, W) [.ref (g.2.2.1 0)]) (zQi g (zPx W Q)) 0 0 (zA g) := by
  unfold w_X9_takeBack at h
  refine zMet (own := RX9) [(0, .ref (g.2.2.1 0))] (by decide +kernel) rfl (Nat.le_of_ble_eq_true rfl) rfl (fun p e s m args below meth c C hr => ?_)
  refine zm_aload_n C dX9_takeBack_0 rfl 0 rfl ?_
  refine gf_RX9_10 (k1 := 1) C kd_0 rfl dX9_takeBack_1 ?_
  refine gf_RX9_118 (k1 := 6) C kd_1 rfl dX9_takeBack_4 ?_
  refine zm_astore_n (lv' := [(1, .ref (g.2.2.1 6)), (0, .ref (g.2.2.1 0))]) C dX9_takeBack_7 rfl (by decide) rfl ?_
  refine zm_aload_n C dX9_takeBack_8 rfl 0 rfl ?_
  refine gf_RX9_122 C kd_6 dX9_takeBack_9 ?_
  refine zm_if_ne (tgt := 23) C dX9_takeBack_12 (by decide) (fun hc_1 => ?_) (fun hc_1 => ?_)
  · have h := h.1 hc_1
    refine zm_aload_n C dX9_takeBack_23 rfl 0 rfl ?_
    refine gf_RX9_325 C kd_6 dX9_takeBack_24 ?_
    refine zm_if_ne (tgt := 38) C dX9_takeBack_27 (by decide) (fun hc_2 => ?_) (fun hc_2 => ?_)
    · have h := h.1 hc_2
      refine zm_aload_n C dX9_takeBack_38 rfl 0 rfl ?_
      refine zm_dup C dX9_takeBack_39 rfl ?_
      refine gf_RX9_325 C kd_6 dX9_takeBack_40 ?_
      refine zm_iconst (v := 1) C dX9_takeBack_43 (by decide) ?_
      refine zm_isub C dX9_takeBack_44 ?_
      refine pf_RX9_325 C kd_6  dX9_takeBack_45 (fun u_3 hu_3 => ?_)
      have h := h u_3 hu_3
      refine zm_aload_n C dX9_takeBack_48 rfl 0 rfl ?_
      refine gf_RX9_325 C kd_6 dX9_takeBack_49 ?_
      exact zm_iret C hr dX9_takeBack_52 ⟨_, rfl, h⟩
    · have h := h.2 hc_2
      refine zm_aload_n C dX9_takeBack_30 rfl 1 rfl ?_
      refine zm_bipush (v := 11) C dX9_takeBack_31 (by decide) ?_
      refine zm_iconst (v := 0) C dX9_takeBack_33 (by decide) ?_
      refine zm_ci (zr_V (As := [.int (11 : Int32), .int (0 : Int32)]) (rest := []) C (c_X9_refused l g u W (11 : Int32) (0 : Int32) h) wd_351 wd_353 wp_2 wd_1 wd_354 hy_X9_refused rfl rfl ⟨by decide, by decide⟩ ⟨by decide, by decide⟩ (ci := 9) (by decide) (zCell_k kd_0) rfl rfl rfl rfl (Nat.le_of_ble_eq_true rfl) dX9_takeBack_34) (fun r_4 M1 hq => ?_)
      obtain ⟨u_5, rfl, h⟩ := hq
      exact zm_iret C hr dX9_takeBack_37 ⟨_, rfl, h⟩
  · have h := h.2 hc_1
    refine zm_aload_n C dX9_takeBack_15 rfl 1 rfl ?_
    refine zm_bipush (v := 8) C dX9_takeBack_16 (by decide) ?_
    refine zm_iconst (v := 0) C dX9_takeBack_18 (by decide) ?_
    refine zm_ci (zr_V (As := [.int (8 : Int32), .int (0 : Int32)]) (rest := []) C (c_X9_refused l g u W (8 : Int32) (0 : Int32) h) wd_351 wd_353 wp_2 wd_1 wd_354 hy_X9_refused rfl rfl ⟨by decide, by decide⟩ ⟨by decide, by decide⟩ (ci := 9) (by decide) (zCell_k kd_0) rfl rfl rfl rfl (Nat.le_of_ble_eq_true rfl) dX9_takeBack_19) (fun r_6 M1 hq => ?_)
    obtain ⟨u_7, rfl, h⟩ := hq
    exact zm_iret C hr dX9_takeBack_22 ⟨_, rfl, h⟩
abbrev rm_X9_back : Room := { frames := 7, cells := 1, slots := 6, locals := 306 }
def w_X9_back (u : MU) (Q : Int32 → MU → Prop) (X : String → MU → Prop) : Prop := w_X9_setAside  u (fun u_2 => w_X9_takeBack  u_2 (fun r_3 u_4 => w_X9_settled r_3 u_4 (fun r_5 u_6 => Q r_5 u_6) X))
set_option maxHeartbeats 4000000 in
set_option maxRecDepth 100000 in
theorem c_X9_back (l : Launch) (hstk : l.stackTraces = false) (g : GE) (u : MU) (W : MU × ((Nat → Int64) × (Nat → UInt64))) {Q : Int32 → MU → Prop} {X : String → MU → Prop} (h : w_X9_back u Q X) : vx_Met l yX9_back (.code yX9_back cX9_back 1 (Option.some Jvm.ClassFile.FieldType.int) :: TB) rm_X9_back (zPc g (u, W) [.ref (g.2.2.1 0)]) (zQi g (zPx W Q)) (zXC g (zXx W X)) 1 6 (zA g) := by
  unfold w_X9_back at h
  refine zMetX (own := RX9) [(0, .ref (g.2.2.1 0))] (by decide +kernel) rfl (Nat.le_of_ble_eq_true rfl) rfl (fun p e s m args below meth c C hr ht => ?_)
  refine zm_aload_n C dX9_back_0 rfl 0 rfl ?_
  refine zm_cv (zr_V (As := []) (rest := []) C (c_X9_setAside l g u W  h) wd_343 wd_345 wp_0 wd_1 wd_346 hy_X9_setAside rfl rfl ⟨by decide, by decide⟩ ⟨by decide, by decide⟩ (ci := 9) (by decide) (zCell_k kd_0) rfl rfl rfl rfl (Nat.le_of_ble_eq_true rfl) dX9_back_1) (fun M1 hq => ?_)
  obtain ⟨u_2, rfl, h⟩ := hq
  refine zm_aload_n C dX9_back_4 rfl 0 rfl ?_
  refine zm_aload_n C dX9_back_5 rfl 0 rfl ?_
  refine zm_ci (zr_V (As := []) (rest := [.ref (g.2.2.1 0)]) C (c_X9_takeBack l g u_2 W  h) wd_819 wd_821 wp_24 wd_1 wd_822 hy_X9_takeBack rfl rfl ⟨by decide, by decide⟩ ⟨by decide, by decide⟩ (ci := 9) (by decide) (zCell_k kd_0) rfl rfl rfl rfl (Nat.le_of_ble_eq_true rfl) dX9_back_6) (fun r_3 M1 hq => ?_)
  obtain ⟨u_4, rfl, h⟩ := hq
  refine zx_ci (zrX_V (As := [.int r_3]) (rest := []) C (c_X9_settled l hstk g u_4 W r_3 h) wd_363 wd_365 wp_5 wd_1 wd_366 hy_X9_settled rfl rfl ⟨by decide, by decide⟩ ⟨by decide, by decide⟩ (ci := 9) (by decide) (zCell_k kd_0) rfl rfl rfl rfl (Nat.le_of_ble_eq_true rfl) dX9_back_9) (fun E M1 hq => ?_) (fun r_5 M1 hq => ?_)
  · obtain ⟨u_6, rfl, h⟩ := hq
    exact zm_out C ht (by decide) (by decide) ⟨_, rfl, h⟩
  · obtain ⟨u_6, rfl, h⟩ := hq
    refine zm_vx (by decide) (by decide) ?_
    exact zm_iret C hr dX9_back_12 ⟨_, rfl, h⟩
abbrev rm_X9_now : Room := { frames := 6, cells := 1, slots := 6, locals := 90 }
def w_X9_now (u : MU) (Q : Int32 → MU → Prop) (X : String → MU → Prop) : Prop := ((¬ (u 6 0) = 0) → w_X2_lastPosition 6 u (fun r_2 => Q r_2 u)) ∧ (((u 6 0) = 0) → X "java/util/NoSuchElementException" u)
set_option maxHeartbeats 4000000 in
set_option maxRecDepth 100000 in
theorem c_X9_now (l : Launch) (hstk : l.stackTraces = false) (g : GE) (u : MU) (W : MU × ((Nat → Int64) × (Nat → UInt64))) {Q : Int32 → MU → Prop} {X : String → MU → Prop} (h : w_X9_now u Q X) : vx_Met l yX9_now (.code yX9_now cX9_now 1 (Option.some Jvm.ClassFile.FieldType.int) :: TB) rm_X9_now (zPc g (u, W) [.ref (g.2.2.1 0)]) (zQi g (zPx W Q)) (zXC g (zXx W X)) 1 6 (zA g) := by
  unfold w_X9_now at h
  refine zMetX (own := RX9) [(0, .ref (g.2.2.1 0))] (by decide +kernel) rfl (Nat.le_of_ble_eq_true rfl) rfl (fun p e s m args below meth c C hr ht => ?_)
  refine zm_aload_n C dX9_now_0 rfl 0 rfl ?_
  refine gf_RX9_10 (k1 := 1) C kd_0 rfl dX9_now_1 ?_
  refine gf_RX9_118 (k1 := 6) C kd_1 rfl dX9_now_4 ?_
  refine gf_RX9_122 C kd_6 dX9_now_7 ?_
  refine zm_if_ne (tgt := 23) C dX9_now_10 (by decide) (fun hc_1 => ?_) (fun hc_1 => ?_)
  · have h := h.1 hc_1
    refine zm_aload_n C dX9_now_23 rfl 0 rfl ?_
    refine gf_RX9_10 (k1 := 1) C kd_0 rfl dX9_now_24 ?_
    refine gf_RX9_118 (k1 := 6) C kd_1 rfl dX9_now_27 ?_
    refine zm_ci (zr_V (As := []) (rest := []) C (c_X2_lastPosition l g u W 6 kd_6 h) wd_790 wd_791 wd_792 wd_4 wd_793 hy_X2_lastPosition rfl rfl ⟨by decide, by decide⟩ ⟨by decide, by decide⟩ (ci := 2) (by decide) (zCell_k kd_6) rfl rfl rfl rfl (Nat.le_of_ble_eq_true rfl) dX9_now_30) (fun r_2 M1 hq => ?_)
    obtain ⟨rfl, h⟩ := hq
    refine zm_vx (by decide) (by decide) ?_
    exact zm_iret C hr dX9_now_33 ⟨_, rfl, h⟩
  · have h := h.2 hc_1
    exact zm_throwN C hstk wd_875 wd_22 (is := 130) (text := "there is no game") (by decide) hat_NoSuchElementException_132 hgd_NoSuchElementException_132_128 dX9_now_13 dX9_now_16 dX9_now_17 dX9_now_19 dX9_now_22 ht (Nat.le_of_ble_eq_true rfl) (Nat.le_of_ble_eq_true rfl) (Nat.le_of_ble_eq_true rfl) (Nat.le_of_ble_eq_true rfl) (Nat.le_of_ble_eq_true rfl) (Nat.le_of_ble_eq_true rfl) ⟨_, rfl, h⟩
abbrev rm_X9_position : Room := { frames := 6, cells := 1, slots := 6, locals := 90 }
def wb_X9_position_39 (Q : Int32 → MU → Prop) (X : String → MU → Prop) (s0 : Int32) (s1 : Int32) (s2 : Int32) (s3 : Int32) (u : MU) : Prop := w_X9_numberOf s3 s2 s1 s0 (fun r_1 => Q r_1 u)
set_option maxHeartbeats 4000000 in
set_option maxRecDepth 100000 in
theorem vb_X9_position_39 {p : Program} {l : Launch} {e : Env} {s : State} {m : MethodId} {args : Array Value} {below : List Frame} {meth : Method} {c : Code} {g : GE} {W : MU × ((Nat → Int64) × (Nat → UInt64))} {Q : Int32 → MU → Prop} {X : String → MU → Prop} (C : zCx p l s m args meth c g RX9 cX9_position 5) (hr : meth.sig.returnType = (Option.some Jvm.ClassFile.FieldType.int)) (hstk : l.stackTraces = false) (ht : ∀ x ∈ c.exceptionTable.toList, False) (s0 : Int32) (s1 : Int32) (s2 : Int32) (s3 : Int32) (u : MU) (h : wb_X9_position_39   Q X s0 s1 s2 s3 u) : WM p l e rm_X9_position s m args below meth c g 5 0 0 (vx_MQ below (zQi g (zPx W Q)) (zXC g (zXx W X)) args s 1 6 (zA g)) 39 [] [.int s0, .int s1, .int s2, .int s3] (u, W) := by
  unfold wb_X9_position_39 at h
  refine zm_ci (zr_S (As := [.int s3, .int s2, .int s1, .int s0]) (rest := []) C (c_X9_numberOf l g (u, W) s3 s2 s1 s0 h) wd_675 wd_608 wd_1 wd_609 hy_X9_numberOf rfl rfl ⟨by decide, by decide⟩ ⟨by decide, by decide⟩ rfl rfl (Nat.le_of_ble_eq_true rfl) dX9_position_39) (fun r_1 M1 hq => ?_)
  obtain ⟨rfl, h⟩ := hq
  refine zm_vx (by decide) (by decide) ?_
  exact zm_iret C hr dX9_position_42 ⟨_, rfl, h⟩
def w_X9_position (x1 : Int32) (x2 : Int32) (x3 : Int32) (x4 : Int32) (u : MU) (Q : Int32 → MU → Prop) (X : String → MU → Prop) : Prop := w_X1_fits 2 u x1 x2 x3 (fun r_1 => ((¬ r_1 = 0) → ((x4 = 0) → wb_X9_position_39   Q X (0 : Int32) x3 x2 x1 u) ∧ ((¬ x4 = 0) → wb_X9_position_39   Q X (1 : Int32) x3 x2 x1 u)) ∧ ((r_1 = 0) → X "java/util/NoSuchElementException" u))
set_option maxHeartbeats 4000000 in
set_option maxRecDepth 100000 in
theorem c_X9_position (l : Launch) (hstk : l.stackTraces = false) (g : GE) (u : MU) (W : MU × ((Nat → Int64) × (Nat → UInt64))) (x1 : Int32) (x2 : Int32) (x3 : Int32) (x4 : Int32) {Q : Int32 → MU → Prop} {X : String → MU → Prop} (h : w_X9_position x1 x2 x3 x4 u Q X) : vx_Met l yX9_position (.code yX9_position cX9_position 5 (Option.some Jvm.ClassFile.FieldType.int) :: TB) rm_X9_position (zPc g (u, W) [.ref (g.2.2.1 0), .int x1, .int x2, .int x3, .int x4]) (zQi g (zPx W Q)) (zXC g (zXx W X)) 1 6 (zA g) := by
  unfold w_X9_position at h
  refine zMetX (own := RX9) [(0, .ref (g.2.2.1 0)), (1, .int x1), (2, .int x2), (3, .int x3), (4, .int x4)] (by decide +kernel) rfl (Nat.le_of_ble_eq_true rfl) rfl (fun p e s m args below meth c C hr ht => ?_)
  refine zm_aload_n C dX9_position_0 rfl 0 rfl ?_
  refine gf_RX9_10 (k1 := 1) C kd_0 rfl dX9_position_1 ?_
  refine gf_RX9_138 (k1 := 2) C kd_1 rfl dX9_position_4 ?_
  refine zm_iload_n C dX9_position_7 rfl 1 rfl ?_
  refine zm_iload_n C dX9_position_8 rfl 2 rfl ?_
  refine zm_iload_n C dX9_position_9 rfl 3 rfl ?_
  refine zm_ci (zr_V (As := [.int x1, .int x2, .int x3]) (rest := []) C (c_X1_fits l g u W 2 kd_2 x1 x2 x3 h) wd_1400 wd_603 wd_604 wd_3 wd_605 hy_X1_fits rfl rfl ⟨by decide, by decide⟩ ⟨by decide, by decide⟩ (ci := 1) (by decide) (zCell_k kd_2) rfl rfl rfl rfl (Nat.le_of_ble_eq_true rfl) dX9_position_10) (fun r_1 M1 hq => ?_)
  obtain ⟨rfl, h⟩ := hq
  refine zm_if_ne (tgt := 26) C dX9_position_13 (by decide) (fun hc_3 => ?_) (fun hc_3 => ?_)
  · have h := h.1 hc_3
    refine zm_iload_n C dX9_position_26 rfl 1 rfl ?_
    refine zm_iload_n C dX9_position_27 rfl 2 rfl ?_
    refine zm_iload_n C dX9_position_28 rfl 3 rfl ?_
    refine zm_iload C dX9_position_29 4 rfl ?_
    refine zm_if_eq (tgt := 38) C dX9_position_31 (by decide) (fun hc_4 => ?_) (fun hc_4 => ?_)
    · have h := h.1 hc_4
      refine zm_iconst (v := 0) C dX9_position_38 (by decide) ?_
      exact zm_sub [] rfl (vb_X9_position_39 C hr hstk ht  _ _ _ _ _ h)
    · have h := h.2 hc_4
      refine zm_iconst (v := 1) C dX9_position_34 (by decide) ?_
      refine zm_goto (tgt := 39) C dX9_position_35 (by decide) ?_
      exact zm_sub [] rfl (vb_X9_position_39 C hr hstk ht  _ _ _ _ _ h)
  · have h := h.2 hc_3
    exact zm_throwN C hstk wd_875 wd_22 (is := 145) (text := "there is no such position") (by decide) hat_NoSuchElementException_132 hgd_NoSuchElementException_132_128 dX9_position_16 dX9_position_19 dX9_position_20 dX9_position_22 dX9_position_25 ht (Nat.le_of_ble_eq_true rfl) (Nat.le_of_ble_eq_true rfl) (Nat.le_of_ble_eq_true rfl) (Nat.le_of_ble_eq_true rfl) (Nat.le_of_ble_eq_true rfl) (Nat.le_of_ble_eq_true rfl) ⟨_, rfl, h⟩
abbrev rm_X9_needPosition : Room := { frames := 6, cells := 1, slots := 6, locals := 90 }
def w_X9_needPosition (x1 : Int32) (u : MU) (Q : MU → Prop) (X : String → MU → Prop) : Prop := w_X1_holds 2 u x1 (fun r_1 => ((¬ r_1 = 0) → Q u) ∧ ((r_1 = 0) → X "java/util/NoSuchElementException" u))
set_option maxHeartbeats 4000000 in
set_option maxRecDepth 100000 in
theorem c_X9_needPosition (l : Launch) (hstk : l.stackTraces = false) (g : GE) (u : MU) (W : MU × ((Nat → Int64) × (Nat → UInt64))) (x1 : Int32) {Q : MU → Prop} {X : String → MU → Prop} (h : w_X9_needPosition x1 u Q X) : vx_Met l yX9_needPosition (.code yX9_needPosition cX9_needPosition 2 (Option.none : Option Jvm.ClassFile.FieldType) :: TB) rm_X9_needPosition (zPc g (u, W) [.ref (g.2.2.1 0), .int x1]) (zQv g (zPxv W Q)) (zXC g (zXx W X)) 1 6 (zA g) := by
  unfold w_X9_needPosition at h
  refine zMetX (own := RX9) [(0, .ref (g.2.2.1 0)), (1, .int x1)] (by decide +kernel) rfl (Nat.le_of_ble_eq_true rfl) rfl (fun p e s m args below meth c C hr ht => ?_)
  refine zm_aload_n C dX9_needPosition_0 rfl 0 rfl ?_
  refine gf_RX9_10 (k1 := 1) C kd_0 rfl dX9_needPosition_1 ?_
  refine gf_RX9_138 (k1 := 2) C kd_1 rfl dX9_needPosition_4 ?_
  refine zm_iload_n C dX9_needPosition_7 rfl 1 rfl ?_
  refine zm_ci (zr_V (As := [.int x1]) (rest := []) C (c_X1_holds l g u W 2 kd_2 x1 h) wd_776 wd_777 wd_778 wd_3 wd_779 hy_X1_holds rfl rfl ⟨by decide, by decide⟩ ⟨by decide, by decide⟩ (ci := 1) (by decide) (zCell_k kd_2) rfl rfl rfl rfl (Nat.le_of_ble_eq_true rfl) dX9_needPosition_8) (fun r_1 M1 hq => ?_)
  obtain ⟨rfl, h⟩ := hq
  refine zm_if_ne (tgt := 24) C dX9_needPosition_11 (by decide) (fun hc_3 => ?_) (fun hc_3 => ?_)
  · have h := h.1 hc_3
    refine zm_vx (by decide) (by decide) ?_
    exact zm_vret C hr dX9_needPosition_24 ⟨_, rfl, h⟩
  · have h := h.2 hc_3
    exact zm_throwN C hstk wd_875 wd_22 (is := 145) (text := "there is no such position") (by decide) hat_NoSuchElementException_132 hgd_NoSuchElementException_132_128 dX9_needPosition_14 dX9_needPosition_17 dX9_needPosition_18 dX9_needPosition_20 dX9_needPosition_23 ht (Nat.le_of_ble_eq_true rfl) (Nat.le_of_ble_eq_true rfl) (Nat.le_of_ble_eq_true rfl) (Nat.le_of_ble_eq_true rfl) (Nat.le_of_ble_eq_true rfl) (Nat.le_of_ble_eq_true rfl) ⟨_, rfl, h⟩
abbrev rm_X9_positionOf : Room := { frames := 7, cells := 1, slots := 6, locals := 111 }
def wb_X9_positionOf_10 (Q : Int32 → MU → Prop) (X : String → MU → Prop) (u : MU) : Prop := X "java/lang/IllegalArgumentException" u
set_option maxHeartbeats 4000000 in
set_option maxRecDepth 100000 in
theorem vb_X9_positionOf_10 {p : Program} {l : Launch} {e : Env} {s : State} {m : MethodId} {args : Array Value} {below : List Frame} {meth : Method} {c : Code} {g : GE} {W : MU × ((Nat → Int64) × (Nat → UInt64))} {Q : Int32 → MU → Prop} {X : String → MU → Prop} (C : zCx p l s m args meth c g RX9 cX9_positionOf 3) (hr : meth.sig.returnType = (Option.some Jvm.ClassFile.FieldType.int)) (hstk : l.stackTraces = false) (ht : ∀ x ∈ c.exceptionTable.toList, False) (u : MU) (h : wb_X9_positionOf_10   Q X  u) : WM p l e rm_X9_positionOf s m args below meth c g 3 0 0 (vx_MQ below (zQi g (zPx W Q)) (zXC g (zXx W X)) args s 1 6 (zA g)) 10 [] [] (u, W) := by
  unfold wb_X9_positionOf_10 at h
  exact zm_throw (names := ["java/lang/RuntimeException", "java/lang/Exception"]) C hstk fit_IllegalArgumentException fit_names wd_560 wd_18 (is := 153) (text := "what is not from 0 to 6") (by decide) hat_IllegalArgumentException_155 hgd_IllegalArgumentException_155_151 dX9_positionOf_10 dX9_positionOf_13 dX9_positionOf_14 dX9_positionOf_16 dX9_positionOf_19 ht (Nat.le_of_ble_eq_true rfl) (Nat.le_of_ble_eq_true rfl) (Nat.le_of_ble_eq_true rfl) (Nat.le_of_ble_eq_true rfl) (Nat.le_of_ble_eq_true rfl) (Nat.le_of_ble_eq_true rfl) ⟨_, rfl, h⟩
def w_X9_positionOf (x1 : Int32) (x2 : Int32) (u : MU) (Q : Int32 → MU → Prop) (X : String → MU → Prop) : Prop := ((x2 < 0) → wb_X9_positionOf_10   Q X u) ∧ ((¬ x2 < 0) → ((x2 ≤ (6 : Int32)) → w_X9_needPosition x1 u (fun u_4 => (x2 = (0 : Int32) → w_X9_foxOf x1 (fun r_7 => Q r_7 u_4)) ∧ (¬ x2 = (0 : Int32) → (x2 = (1 : Int32) → w_X9_firstOf x1 (fun r_10 => Q r_10 u_4)) ∧ (¬ x2 = (1 : Int32) → (x2 = (2 : Int32) → w_X9_secondOf x1 (fun r_13 => Q r_13 u_4)) ∧ (¬ x2 = (2 : Int32) → (x2 = (3 : Int32) → w_X9_turnOf x1 (fun r_16 => Q r_16 u_4)) ∧ (¬ x2 = (3 : Int32) → (x2 = (4 : Int32) → w_X1_movesOf 2 u_4 x1 (fun r_19 => w_J13_bitCount_95d88 r_19 (fun r_21 => Q r_21 u_4))) ∧ (¬ x2 = (4 : Int32) → w_X7_solve 95 2 u_4 (fun u_24 => ((¬ x2 = (5 : Int32)) → w_X7_inMoves 95 u_24 x1 (fun r_26 => Q r_26 u_24)) ∧ ((x2 = (5 : Int32)) → w_X7_outcomeOf 95 u_24 x1 (fun r_28 => Q r_28 u_24))))))))) X) ∧ ((¬ x2 ≤ (6 : Int32)) → wb_X9_positionOf_10   Q X u))
set_option maxHeartbeats 4000000 in
set_option maxRecDepth 100000 in
theorem c_X9_positionOf (l : Launch) (hstk : l.stackTraces = false) (g : GE) (u : MU) (W : MU × ((Nat → Int64) × (Nat → UInt64))) (x1 : Int32) (x2 : Int32) {Q : Int32 → MU → Prop} {X : String → MU → Prop} (h : w_X9_positionOf x1 x2 u Q X) : vx_Met l yX9_positionOf (.code yX9_positionOf cX9_positionOf 3 (Option.some Jvm.ClassFile.FieldType.int) :: TB) rm_X9_positionOf (zPc g (u, W) [.ref (g.2.2.1 0), .int x1, .int x2]) (zQi g (zPx W Q)) (zXC g (zXx W X)) 1 6 (zA g) := by
  unfold w_X9_positionOf at h
  refine zMetX (own := RX9) [(0, .ref (g.2.2.1 0)), (1, .int x1), (2, .int x2)] (by decide +kernel) rfl (Nat.le_of_ble_eq_true rfl) rfl (fun p e s m args below meth c C hr ht => ?_)
  refine zm_iload_n C dX9_positionOf_0 rfl 2 rfl ?_
  refine zm_if_lt (tgt := 10) C dX9_positionOf_1 (by decide) (fun hc_1 => ?_) (fun hc_1 => ?_)
  · have h := h.1 hc_1
    exact zm_sub [] rfl (vb_X9_positionOf_10 C hr hstk ht  _ h)
  · have h := h.2 hc_1
    refine zm_iload_n C dX9_positionOf_4 rfl 2 rfl ?_
    refine zm_bipush (v := 6) C dX9_positionOf_5 (by decide) ?_
    refine zm_icmp_le (tgt := 20) C dX9_positionOf_7 (by decide) (fun hc_2 => ?_) (fun hc_2 => ?_)
    · have h := h.1 hc_2
      refine zm_aload_n C dX9_positionOf_20 rfl 0 rfl ?_
      refine zm_iload_n C dX9_positionOf_21 rfl 1 rfl ?_
      refine zx_cv (zrX_V (As := [.int x1]) (rest := []) C (c_X9_needPosition l hstk g u W x1 h) wd_979 wd_981 wp_27 wd_1 wd_982 hy_X9_needPosition rfl rfl ⟨by decide, by decide⟩ ⟨by decide, by decide⟩ (ci := 9) (by decide) (zCell_k kd_0) rfl rfl rfl rfl (Nat.le_of_ble_eq_true rfl) dX9_positionOf_22) (fun E M1 hq => ?_) (fun M1 hq => ?_)
      · obtain ⟨u_4, rfl, h⟩ := hq
        exact zm_out C ht (by decide) (by decide) ⟨_, rfl, h⟩
      · obtain ⟨u_4, rfl, h⟩ := hq
        refine zm_iload_n C dX9_positionOf_25 rfl 2 rfl ?_
        by_cases hc_6 : x2 = (0 : Int32)
        · have h := h.1 hc_6
          refine zm_tableIn (tgt := 60) C dX9_positionOf_26 (by rw [hc_6]; decide) (by rw [hc_6]; decide) (by rw [hc_6]; rfl) (by decide) ?_
          refine zm_iload_n C dX9_positionOf_60 rfl 1 rfl ?_
          refine zm_ci (zr_S (As := [.int x1]) (rest := []) C (c_X9_foxOf l g (u_4, W) x1 h) wd_671 wd_626 wd_1 wd_627 hy_X9_foxOf rfl rfl ⟨by decide, by decide⟩ ⟨by decide, by decide⟩ rfl rfl (Nat.le_of_ble_eq_true rfl) dX9_positionOf_61) (fun r_7 M1 hq => ?_)
          obtain ⟨rfl, h⟩ := hq
          refine zm_vx (by decide) (by decide) ?_
          exact zm_iret C hr dX9_positionOf_64 ⟨_, rfl, h⟩
        · have h := h.2 hc_6
          by_cases hc_9 : x2 = (1 : Int32)
          · have h := h.1 hc_9
            refine zm_tableIn (tgt := 65) C dX9_positionOf_26 (by rw [hc_9]; decide) (by rw [hc_9]; decide) (by rw [hc_9]; rfl) (by decide) ?_
            refine zm_iload_n C dX9_positionOf_65 rfl 1 rfl ?_
            refine zm_ci (zr_S (As := [.int x1]) (rest := []) C (c_X9_firstOf l g (u_4, W) x1 h) wd_672 wd_616 wd_1 wd_617 hy_X9_firstOf rfl rfl ⟨by decide, by decide⟩ ⟨by decide, by decide⟩ rfl rfl (Nat.le_of_ble_eq_true rfl) dX9_positionOf_66) (fun r_10 M1 hq => ?_)
            obtain ⟨rfl, h⟩ := hq
            refine zm_vx (by decide) (by decide) ?_
            exact zm_iret C hr dX9_positionOf_69 ⟨_, rfl, h⟩
          · have h := h.2 hc_9
            by_cases hc_12 : x2 = (2 : Int32)
            · have h := h.1 hc_12
              refine zm_tableIn (tgt := 70) C dX9_positionOf_26 (by rw [hc_12]; decide) (by rw [hc_12]; decide) (by rw [hc_12]; rfl) (by decide) ?_
              refine zm_iload_n C dX9_positionOf_70 rfl 1 rfl ?_
              refine zm_ci (zr_S (As := [.int x1]) (rest := []) C (c_X9_secondOf l g (u_4, W) x1 h) wd_673 wd_619 wd_1 wd_620 hy_X9_secondOf rfl rfl ⟨by decide, by decide⟩ ⟨by decide, by decide⟩ rfl rfl (Nat.le_of_ble_eq_true rfl) dX9_positionOf_71) (fun r_13 M1 hq => ?_)
              obtain ⟨rfl, h⟩ := hq
              refine zm_vx (by decide) (by decide) ?_
              exact zm_iret C hr dX9_positionOf_74 ⟨_, rfl, h⟩
            · have h := h.2 hc_12
              by_cases hc_15 : x2 = (3 : Int32)
              · have h := h.1 hc_15
                refine zm_tableIn (tgt := 75) C dX9_positionOf_26 (by rw [hc_15]; decide) (by rw [hc_15]; decide) (by rw [hc_15]; rfl) (by decide) ?_
                refine zm_iload_n C dX9_positionOf_75 rfl 1 rfl ?_
                refine zm_ci (zr_S (As := [.int x1]) (rest := []) C (c_X9_turnOf l g (u_4, W) x1 h) wd_674 wd_629 wd_1 wd_630 hy_X9_turnOf rfl rfl ⟨by decide, by decide⟩ ⟨by decide, by decide⟩ rfl rfl (Nat.le_of_ble_eq_true rfl) dX9_positionOf_76) (fun r_16 M1 hq => ?_)
                obtain ⟨rfl, h⟩ := hq
                refine zm_vx (by decide) (by decide) ?_
                exact zm_iret C hr dX9_positionOf_79 ⟨_, rfl, h⟩
              · have h := h.2 hc_15
                by_cases hc_18 : x2 = (4 : Int32)
                · have h := h.1 hc_18
                  refine zm_tableIn (tgt := 80) C dX9_positionOf_26 (by rw [hc_18]; decide) (by rw [hc_18]; decide) (by rw [hc_18]; rfl) (by decide) ?_
                  refine zm_aload_n C dX9_positionOf_80 rfl 0 rfl ?_
                  refine gf_RX9_10 (k1 := 1) C kd_0 rfl dX9_positionOf_81 ?_
                  refine gf_RX9_138 (k1 := 2) C kd_1 rfl dX9_positionOf_84 ?_
                  refine zm_iload_n C dX9_positionOf_87 rfl 1 rfl ?_
                  refine zm_cl (zr_V (As := [.int x1]) (rest := []) C (c_X1_movesOf l g u_4 W 2 kd_2 x1 h) wd_785 wd_612 wd_613 wd_3 wd_614 hy_X1_movesOf rfl rfl ⟨by decide, by decide⟩ ⟨by decide, by decide⟩ (ci := 1) (by decide) (zCell_k kd_2) rfl rfl rfl rfl (Nat.le_of_ble_eq_true rfl) dX9_positionOf_88) (fun r_19 M1 hq => ?_)
                  obtain ⟨rfl, h⟩ := hq
                  refine zm_ci (zr_Sx (As := [.long r_19]) (rest := []) C (c_J13_bitCount_95d88 l g (u_4, W) r_19 h) wd_658 wd_637 wd_21 wd_638 hz_J13_bitCount_95d88 rfl rfl ⟨by decide, by decide⟩ ⟨by decide, by decide⟩ rfl rfl (Nat.le_of_ble_eq_true rfl) dX9_positionOf_91) (fun r_21 M1 hq => ?_)
                  obtain ⟨rfl, h⟩ := hq
                  refine zm_vx (by decide) (by decide) ?_
                  exact zm_iret C hr dX9_positionOf_94 ⟨_, rfl, h⟩
                · have h := h.2 hc_18
                  have n0 := lv_neT (a := 0) hc_6 rfl
                  have n1 := lv_neT (a := 1) hc_9 rfl
                  have n2 := lv_neT (a := 2) hc_12 rfl
                  have n3 := lv_neT (a := 3) hc_15 rfl
                  have n4 := lv_neT (a := 4) hc_18 rfl
                  refine zm_tableOut (tgt := 95) C dX9_positionOf_26 (by omega) (by decide) ?_
                  refine zm_aload_n C dX9_positionOf_95 rfl 0 rfl ?_
                  refine gf_RX9_39 (k1 := 95) C kd_0 rfl dX9_positionOf_96 ?_
                  refine zm_aload_n C dX9_positionOf_99 rfl 0 rfl ?_
                  refine gf_RX9_10 (k1 := 1) C kd_0 rfl dX9_positionOf_100 ?_
                  refine gf_RX9_138 (k1 := 2) C kd_1 rfl dX9_positionOf_103 ?_
                  refine zm_cv (zr_V (As := [.ref (g.2.2.1 2)]) (rest := []) C (c_X7_solve l g u_4 W 95 2 kd_95 kd_2 h) wd_594 wd_595 wd_596 wd_6 wd_597 hy_X7_solve rfl rfl ⟨by decide, by decide⟩ ⟨by decide, by decide⟩ (ci := 7) (by decide) (zCell_k kd_95) rfl rfl rfl rfl (Nat.le_of_ble_eq_true rfl) dX9_positionOf_106) (fun M1 hq => ?_)
                  obtain ⟨u_24, rfl, h⟩ := hq
                  refine zm_iload_n C dX9_positionOf_109 rfl 2 rfl ?_
                  refine zm_iconst (v := 5) C dX9_positionOf_110 (by decide) ?_
                  refine zm_icmp_ne (tgt := 125) C dX9_positionOf_111 (by decide) (fun hc_25 => ?_) (fun hc_25 => ?_)
                  · have h := h.1 hc_25
                    refine zm_aload_n C dX9_positionOf_125 rfl 0 rfl ?_
                    refine gf_RX9_39 (k1 := 95) C kd_0 rfl dX9_positionOf_126 ?_
                    refine zm_iload_n C dX9_positionOf_129 rfl 1 rfl ?_
                    refine zm_ci (zr_V (As := [.int x1]) (rest := []) C (c_X7_inMoves l g u_24 W 95 kd_95 x1 h) wd_839 wd_840 wd_841 wd_6 wd_842 hy_X7_inMoves rfl rfl ⟨by decide, by decide⟩ ⟨by decide, by decide⟩ (ci := 7) (by decide) (zCell_k kd_95) rfl rfl rfl rfl (Nat.le_of_ble_eq_true rfl) dX9_positionOf_130) (fun r_26 M1 hq => ?_)
                    obtain ⟨rfl, h⟩ := hq
                    refine zm_vx (by decide) (by decide) ?_
                    exact zm_iret C hr dX9_positionOf_133 ⟨_, rfl, h⟩
                  · have h := h.2 hc_25
                    refine zm_aload_n C dX9_positionOf_114 rfl 0 rfl ?_
                    refine gf_RX9_39 (k1 := 95) C kd_0 rfl dX9_positionOf_115 ?_
                    refine zm_iload_n C dX9_positionOf_118 rfl 1 rfl ?_
                    refine zm_ci (zr_V (As := [.int x1]) (rest := []) C (c_X7_outcomeOf l g u_24 W 95 kd_95 x1 h) wd_970 wd_692 wd_693 wd_6 wd_694 hy_X7_outcomeOf rfl rfl ⟨by decide, by decide⟩ ⟨by decide, by decide⟩ (ci := 7) (by decide) (zCell_k kd_95) rfl rfl rfl rfl (Nat.le_of_ble_eq_true rfl) dX9_positionOf_119) (fun r_28 M1 hq => ?_)
                    obtain ⟨rfl, h⟩ := hq
                    refine zm_goto (tgt := 133) C dX9_positionOf_122 (by decide) ?_
                    refine zm_vx (by decide) (by decide) ?_
                    exact zm_iret C hr dX9_positionOf_133 ⟨_, rfl, h⟩
    · have h := h.2 hc_2
      exact zm_sub [] rfl (vb_X9_positionOf_10 C hr hstk ht  _ h)
abbrev rm_X9_outcomeAgain : Room := { frames := 7, cells := 1, slots := 6, locals := 121 }
def w_X9_outcomeAgain (x1 : Int32) (u : MU) (Q : Int32 → MU → Prop) (X : String → MU → Prop) : Prop := w_X9_needPosition x1 u (fun u_2 => w_X5_solve 2 u_2 (fun u_4 => w_X5_outcomeOf u_4 x1 (fun r_5 => Q r_5 u_4))) X
set_option maxHeartbeats 4000000 in
set_option maxRecDepth 100000 in
theorem c_X9_outcomeAgain (l : Launch) (hstk : l.stackTraces = false) (g : GE) (u : MU) (W : MU × ((Nat → Int64) × (Nat → UInt64))) (x1 : Int32) {Q : Int32 → MU → Prop} {X : String → MU → Prop} (h : w_X9_outcomeAgain x1 u Q X) : vx_Met l yX9_outcomeAgain (.code yX9_outcomeAgain cX9_outcomeAgain 2 (Option.some Jvm.ClassFile.FieldType.int) :: TB) rm_X9_outcomeAgain (zPc g (u, W) [.ref (g.2.2.1 0), .int x1]) (zQi g (zPx W Q)) (zXC g (zXx W X)) 1 6 (zA g) := by
  unfold w_X9_outcomeAgain at h
  refine zMetX (own := RX9) [(0, .ref (g.2.2.1 0)), (1, .int x1)] (by decide +kernel) rfl (Nat.le_of_ble_eq_true rfl) rfl (fun p e s m args below meth c C hr ht => ?_)
  refine zm_aload_n C dX9_outcomeAgain_0 rfl 0 rfl ?_
  refine zm_iload_n C dX9_outcomeAgain_1 rfl 1 rfl ?_
  refine zx_cv (zrX_V (As := [.int x1]) (rest := []) C (c_X9_needPosition l hstk g u W x1 h) wd_979 wd_981 wp_27 wd_1 wd_982 hy_X9_needPosition rfl rfl ⟨by decide, by decide⟩ ⟨by decide, by decide⟩ (ci := 9) (by decide) (zCell_k kd_0) rfl rfl rfl rfl (Nat.le_of_ble_eq_true rfl) dX9_outcomeAgain_2) (fun E M1 hq => ?_) (fun M1 hq => ?_)
  · obtain ⟨u_2, rfl, h⟩ := hq
    exact zm_out C ht (by decide) (by decide) ⟨_, rfl, h⟩
  · obtain ⟨u_2, rfl, h⟩ := hq
    refine zm_aload_n C dX9_outcomeAgain_5 rfl 0 rfl ?_
    refine gf_RX9_49 (k1 := 105) C kd_0 rfl dX9_outcomeAgain_6 ?_
    refine zm_aload_n C dX9_outcomeAgain_9 rfl 0 rfl ?_
    refine gf_RX9_10 (k1 := 1) C kd_0 rfl dX9_outcomeAgain_10 ?_
    refine gf_RX9_138 (k1 := 2) C kd_1 rfl dX9_outcomeAgain_13 ?_
    refine zm_cv (zr_V (As := [.ref (g.2.2.1 2)]) (rest := []) C (c_X5_solve l g u_2 W 2 kd_2 h) wd_991 wd_992 wd_993 wd_7 wd_994 hy_X5_solve rfl rfl ⟨by decide, by decide⟩ ⟨by decide, by decide⟩ (ci := 5) (by decide) (zCell_k kd_105) rfl rfl rfl rfl (Nat.le_of_ble_eq_true rfl) dX9_outcomeAgain_16) (fun M1 hq => ?_)
    obtain ⟨u_4, rfl, h⟩ := hq
    refine zm_aload_n C dX9_outcomeAgain_19 rfl 0 rfl ?_
    refine gf_RX9_49 (k1 := 105) C kd_0 rfl dX9_outcomeAgain_20 ?_
    refine zm_iload_n C dX9_outcomeAgain_23 rfl 1 rfl ?_
    refine zm_ci (zr_V (As := [.int x1]) (rest := []) C (c_X5_outcomeOf l g u_4 W x1 h) wd_1009 wd_1010 wd_1011 wd_7 wd_1012 hy_X5_outcomeOf rfl rfl ⟨by decide, by decide⟩ ⟨by decide, by decide⟩ (ci := 5) (by decide) (zCell_k kd_105) rfl rfl rfl rfl (Nat.le_of_ble_eq_true rfl) dX9_outcomeAgain_24) (fun r_5 M1 hq => ?_)
    obtain ⟨rfl, h⟩ := hq
    refine zm_vx (by decide) (by decide) ?_
    exact zm_iret C hr dX9_outcomeAgain_27 ⟨_, rfl, h⟩
abbrev rm_X9_moveOf : Room := { frames := 7, cells := 2, slots := 12, locals := 111 }
def wb_X9_moveOf_31 (Q : Int32 → MU → Prop) (X : String → MU → Prop) (u : MU) : Prop := X "java/util/NoSuchElementException" u
set_option maxHeartbeats 4000000 in
set_option maxRecDepth 100000 in
theorem vb_X9_moveOf_31 {p : Program} {l : Launch} {e : Env} {s : State} {m : MethodId} {args : Array Value} {below : List Frame} {meth : Method} {c : Code} {g : GE} {W : MU × ((Nat → Int64) × (Nat → UInt64))} {Q : Int32 → MU → Prop} {X : String → MU → Prop} (C : zCx p l s m args meth c g RX9 cX9_moveOf 7) (hr : meth.sig.returnType = (Option.some Jvm.ClassFile.FieldType.int)) (hstk : l.stackTraces = false) (ht : ∀ x ∈ c.exceptionTable.toList, False) (u : MU) (h : wb_X9_moveOf_31   Q X  u) : WM p l e rm_X9_moveOf s m args below meth c g 7 1 6 (vx_MQ below (zQi g (zPx W Q)) (zXC g (zXx W X)) args s 2 12 (zA g)) 31 [] [] (u, W) := by
  unfold wb_X9_moveOf_31 at h
  exact zm_throwN C hstk wd_875 wd_22 (is := 194) (text := "there is no such place") (by decide) hat_NoSuchElementException_132 hgd_NoSuchElementException_132_128 dX9_moveOf_31 dX9_moveOf_34 dX9_moveOf_35 dX9_moveOf_37 dX9_moveOf_40 ht (Nat.le_of_ble_eq_true rfl) (Nat.le_of_ble_eq_true rfl) (Nat.le_of_ble_eq_true rfl) (Nat.le_of_ble_eq_true rfl) (Nat.le_of_ble_eq_true rfl) (Nat.le_of_ble_eq_true rfl) ⟨_, rfl, h⟩
def wl_X9_moveOf_44 (Q : Int32 → MU → Prop) (X : String → MU → Prop) : Nat → Int32 → Int32 → Int64 → Int32 → MU → Prop
  | 0, _, _, _, _, _ => False
  | n + 1, x2, x3, x4, x6, u => ((x2 ≤ x6) → w_X9_firstMove x4 (fun r_2 => ((x3 = 0) → w_X9_fromOf r_2 (fun r_5 => Q r_5 u)) ∧ ((¬ x3 = 0) → w_X9_toOf r_2 (fun r_7 => Q r_7 u)))) ∧ ((¬ x2 ≤ x6) → w_X9_withoutFirst x4 (fun r_9 => ∀ x6_11, x6_11 = x6 + (1 : Int32) → wl_X9_moveOf_44   Q X n x2 x3 r_9 x6_11 u))
set_option maxHeartbeats 4000000 in
set_option maxRecDepth 100000 in
theorem vl_X9_moveOf_44 {p : Program} {l : Launch} {e : Env} {s : State} {m : MethodId} {args : Array Value} {below : List Frame} {meth : Method} {c : Code} {g : GE} {W : MU × ((Nat → Int64) × (Nat → UInt64))} {Q : Int32 → MU → Prop} {X : String → MU → Prop} (C : zCx p l s m args meth c g RX9 cX9_moveOf 7) (hr : meth.sig.returnType = (Option.some Jvm.ClassFile.FieldType.int)) (hstk : l.stackTraces = false) (ht : ∀ x ∈ c.exceptionTable.toList, False) : ∀ (n : Nat) (x2 : Int32) (x3 : Int32) (x4 : Int64) (x6 : Int32) (u : MU) , wl_X9_moveOf_44   Q X n x2 x3 x4 x6 u → WM p l e rm_X9_moveOf s m args below meth c g 7 1 6 (vx_MQ below (zQi g (zPx W Q)) (zXC g (zXx W X)) args s 2 12 (zA g)) 44 [(2, .int x2), (3, .int x3), (4, .long x4), (6, .int x6)] [] (u, W) := by
  intro n
  induction n with
  | zero => intro _ _ _ _ _ h; exact h.elim
  | succ n ih =>
    intro x2 x3 x4 x6 u h
    unfold wl_X9_moveOf_44 at h
    refine zm_iload C dX9_moveOf_44 3 rfl ?_
    refine zm_iload_n C dX9_moveOf_46 rfl 0 rfl ?_
    refine zm_icmp_ge (tgt := 63) C dX9_moveOf_47 (by decide) (fun hc_1 => ?_) (fun hc_1 => ?_)
    · have h := h.1 hc_1
      refine zm_lload C dX9_moveOf_63 2 rfl ?_
      refine zm_ci (zr_S (As := [.long x4]) (rest := []) C (c_X9_firstMove l g (u, W) x4 h) wd_1046 wd_656 wd_1 wd_657 hy_X9_firstMove rfl rfl ⟨by decide, by decide⟩ ⟨by decide, by decide⟩ rfl rfl (Nat.le_of_ble_eq_true rfl) dX9_moveOf_65) (fun r_2 M1 hq => ?_)
      obtain ⟨rfl, h⟩ := hq
      refine zm_istore (lv' := [(6, .int r_2), (2, .int x2), (3, .int x3), (4, .long x4)]) C dX9_moveOf_68 (by decide) rfl ?_
      refine zm_iload_n C dX9_moveOf_70 rfl 2 rfl ?_
      refine zm_if_eq (tgt := 82) C dX9_moveOf_71 (by decide) (fun hc_4 => ?_) (fun hc_4 => ?_)
      · have h := h.1 hc_4
        refine zm_iload C dX9_moveOf_82 0 rfl ?_
        refine zm_ci (zr_S (As := [.int r_2]) (rest := []) C (c_X9_fromOf l g (u, W) r_2 h) wd_817 wd_663 wd_1 wd_664 hy_X9_fromOf rfl rfl ⟨by decide, by decide⟩ ⟨by decide, by decide⟩ rfl rfl (Nat.le_of_ble_eq_true rfl) dX9_moveOf_84) (fun r_5 M1 hq => ?_)
        obtain ⟨rfl, h⟩ := hq
        refine zm_vx (by decide) (by decide) ?_
        exact zm_iret C hr dX9_moveOf_87 ⟨_, rfl, h⟩
      · have h := h.2 hc_4
        refine zm_iload C dX9_moveOf_74 0 rfl ?_
        refine zm_ci (zr_S (As := [.int r_2]) (rest := []) C (c_X9_toOf l g (u, W) r_2 h) wd_818 wd_666 wd_1 wd_667 hy_X9_toOf rfl rfl ⟨by decide, by decide⟩ ⟨by decide, by decide⟩ rfl rfl (Nat.le_of_ble_eq_true rfl) dX9_moveOf_76) (fun r_7 M1 hq => ?_)
        obtain ⟨rfl, h⟩ := hq
        refine zm_goto (tgt := 87) C dX9_moveOf_79 (by decide) ?_
        refine zm_vx (by decide) (by decide) ?_
        exact zm_iret C hr dX9_moveOf_87 ⟨_, rfl, h⟩
    · have h := h.2 hc_1
      refine zm_lload C dX9_moveOf_50 2 rfl ?_
      refine zm_cl (zr_S (As := [.long x4]) (rest := []) C (c_X9_withoutFirst l g (u, W) x4 h) wd_1045 wd_660 wd_1 wd_661 hy_X9_withoutFirst rfl rfl ⟨by decide, by decide⟩ ⟨by decide, by decide⟩ rfl rfl (Nat.le_of_ble_eq_true rfl) dX9_moveOf_52) (fun r_9 M1 hq => ?_)
      obtain ⟨rfl, h⟩ := hq
      refine zm_lstore (lv' := [(4, .long r_9), (2, .int x2), (3, .int x3), (6, .int x6)]) C dX9_moveOf_55 (by decide) rfl ?_
      obtain ⟨x6_11, hx6_11⟩ : ∃ z, z = x6 + (1 : Int32) := ⟨_, rfl⟩
      have h := h x6_11 hx6_11
      refine zm_iinc (v := x6_11) (lv' := [(6, .int x6_11), (4, .long r_9), (2, .int x2), (3, .int x3)]) C dX9_moveOf_57 3 rfl (by rw [hx6_11]; rfl) (by decide) rfl ?_
      refine zm_goto (tgt := 44) C dX9_moveOf_60 (by decide) ?_
      exact zm_sub [2, 3, 1, 0] rfl (ih _ _ _ _ _ h)
def w_X9_moveOf (x1 : Int32) (x2 : Int32) (x3 : Int32) (u : MU) (Q : Int32 → MU → Prop) (X : String → MU → Prop) : Prop := w_X9_needPosition x1 u (fun u_2 => w_X1_movesOf 2 u_2 x1 (fun r_3 => ((x2 < 0) → wb_X9_moveOf_31   Q X u_2) ∧ ((¬ x2 < 0) → w_J13_bitCount_95d88 r_3 (fun r_6 => ((x2 < r_6) → ∃ nn, wl_X9_moveOf_44   Q X nn x2 x3 r_3 (0 : Int32) u_2) ∧ ((¬ x2 < r_6) → wb_X9_moveOf_31   Q X u_2))))) X
set_option maxHeartbeats 4000000 in
set_option maxRecDepth 100000 in
theorem c_X9_moveOf (l : Launch) (hstk : l.stackTraces = false) (g : GE) (u : MU) (W : MU × ((Nat → Int64) × (Nat → UInt64))) (x1 : Int32) (x2 : Int32) (x3 : Int32) {Q : Int32 → MU → Prop} {X : String → MU → Prop} (h : w_X9_moveOf x1 x2 x3 u Q X) : vx_Met l yX9_moveOf (.code yX9_moveOf cX9_moveOf 7 (Option.some Jvm.ClassFile.FieldType.int) :: TB) rm_X9_moveOf (zPc g (u, W) [.ref (g.2.2.1 0), .int x1, .int x2, .int x3]) (zQi g (zPx W Q)) (zXC g (zXx W X)) 2 12 (zA g) := by
  unfold w_X9_moveOf at h
  refine zMetX (own := RX9) [(0, .ref (g.2.2.1 0)), (1, .int x1), (2, .int x2), (3, .int x3)] (by decide +kernel) rfl (Nat.le_of_ble_eq_true rfl) rfl (fun p e s m args below meth c C hr ht => ?_)
  refine zm_aload_n C dX9_moveOf_0 rfl 0 rfl ?_
  refine zm_iload_n C dX9_moveOf_1 rfl 1 rfl ?_
  refine zx_cv (zrX_V (As := [.int x1]) (rest := []) C (c_X9_needPosition l hstk g u W x1 h) wd_979 wd_981 wp_27 wd_1 wd_982 hy_X9_needPosition rfl rfl ⟨by decide, by decide⟩ ⟨by decide, by decide⟩ (ci := 9) (by decide) (zCell_k kd_0) rfl rfl rfl rfl (Nat.le_of_ble_eq_true rfl) dX9_moveOf_2) (fun E M1 hq => ?_) (fun M1 hq => ?_)
  · obtain ⟨u_2, rfl, h⟩ := hq
    exact zm_out C ht (by decide) (by decide) ⟨_, rfl, h⟩
  · obtain ⟨u_2, rfl, h⟩ := hq
    refine zm_aload_n C dX9_moveOf_5 rfl 0 rfl ?_
    refine gf_RX9_10 (k1 := 1) C kd_0 rfl dX9_moveOf_6 ?_
    refine gf_RX9_138 (k1 := 2) C kd_1 rfl dX9_moveOf_9 ?_
    refine zm_iload_n C dX9_moveOf_12 rfl 1 rfl ?_
    refine zm_cl (zr_V (As := [.int x1]) (rest := []) C (c_X1_movesOf l g u_2 W 2 kd_2 x1 h) wd_785 wd_612 wd_613 wd_3 wd_614 hy_X1_movesOf rfl rfl ⟨by decide, by decide⟩ ⟨by decide, by decide⟩ (ci := 1) (by decide) (zCell_k kd_2) rfl rfl rfl rfl (Nat.le_of_ble_eq_true rfl) dX9_moveOf_13) (fun r_3 M1 hq => ?_)
    obtain ⟨rfl, h⟩ := hq
    refine zm_lstore (lv' := [(4, .long r_3), (0, .ref (g.2.2.1 0)), (1, .int x1), (2, .int x2), (3, .int x3)]) C dX9_moveOf_16 (by decide) rfl ?_
    refine zm_iload_n C dX9_moveOf_18 rfl 3 rfl ?_
    refine zm_if_lt (tgt := 31) C dX9_moveOf_19 (by decide) (fun hc_5 => ?_) (fun hc_5 => ?_)
    · have h := h.1 hc_5
      exact zm_sub [] rfl (vb_X9_moveOf_31 C hr hstk ht  _ h)
    · have h := h.2 hc_5
      refine zm_iload_n C dX9_moveOf_22 rfl 3 rfl ?_
      refine zm_lload C dX9_moveOf_23 0 rfl ?_
      refine zm_ci (zr_Sx (As := [.long r_3]) (rest := [.int x2]) C (c_J13_bitCount_95d88 l g (u_2, W) r_3 h) wd_658 wd_637 wd_21 wd_638 hz_J13_bitCount_95d88 rfl rfl ⟨by decide, by decide⟩ ⟨by decide, by decide⟩ rfl rfl (Nat.le_of_ble_eq_true rfl) dX9_moveOf_25) (fun r_6 M1 hq => ?_)
      obtain ⟨rfl, h⟩ := hq
      refine zm_icmp_lt (tgt := 41) C dX9_moveOf_28 (by decide) (fun hc_8 => ?_) (fun hc_8 => ?_)
      · have h := h.1 hc_8
        refine zm_iconst (v := 0) C dX9_moveOf_41 (by decide) ?_
        refine zm_istore (lv' := [(6, .int (0 : Int32)), (4, .long r_3), (0, .ref (g.2.2.1 0)), (1, .int x1), (2, .int x2), (3, .int x3)]) C dX9_moveOf_42 (by decide) rfl ?_
        obtain ⟨nn, h⟩ := h
        exact zm_sub [4, 5, 1, 0] rfl (vl_X9_moveOf_44 C hr hstk ht  nn _ _ _ _ _ h)
      · have h := h.2 hc_8
        exact zm_sub [] rfl (vb_X9_moveOf_31 C hr hstk ht  _ h)
abbrev rm_X9_best : Room := { frames := 7, cells := 2, slots := 12, locals := 111 }
def w_X9_best (x1 : Int32) (u : MU) (Q : Int32 → MU → Prop) (X : String → MU → Prop) : Prop := w_X9_needPosition x1 u (fun u_2 => w_X7_solve 95 2 u_2 (fun u_4 => w_X7_bestMove 95 2 u_4 x1 (fun r_5 => ((¬ r_5 = (-1 : Int32)) → Q r_5 u_4) ∧ ((r_5 = (-1 : Int32)) → X "java/util/NoSuchElementException" u_4)))) X
set_option maxHeartbeats 4000000 in
set_option maxRecDepth 100000 in
theorem c_X9_best (l : Launch) (hstk : l.stackTraces = false) (g : GE) (u : MU) (W : MU × ((Nat → Int64) × (Nat → UInt64))) (x1 : Int32) {Q : Int32 → MU → Prop} {X : String → MU → Prop} (h : w_X9_best x1 u Q X) : vx_Met l yX9_best (.code yX9_best cX9_best 3 (Option.some Jvm.ClassFile.FieldType.int) :: TB) rm_X9_best (zPc g (u, W) [.ref (g.2.2.1 0), .int x1]) (zQi g (zPx W Q)) (zXC g (zXx W X)) 2 12 (zA g) := by
  unfold w_X9_best at h
  refine zMetX (own := RX9) [(0, .ref (g.2.2.1 0)), (1, .int x1)] (by decide +kernel) rfl (Nat.le_of_ble_eq_true rfl) rfl (fun p e s m args below meth c C hr ht => ?_)
  refine zm_aload_n C dX9_best_0 rfl 0 rfl ?_
  refine zm_iload_n C dX9_best_1 rfl 1 rfl ?_
  refine zx_cv (zrX_V (As := [.int x1]) (rest := []) C (c_X9_needPosition l hstk g u W x1 h) wd_979 wd_981 wp_27 wd_1 wd_982 hy_X9_needPosition rfl rfl ⟨by decide, by decide⟩ ⟨by decide, by decide⟩ (ci := 9) (by decide) (zCell_k kd_0) rfl rfl rfl rfl (Nat.le_of_ble_eq_true rfl) dX9_best_2) (fun E M1 hq => ?_) (fun M1 hq => ?_)
  · obtain ⟨u_2, rfl, h⟩ := hq
    exact zm_out C ht (by decide) (by decide) ⟨_, rfl, h⟩
  · obtain ⟨u_2, rfl, h⟩ := hq
    refine zm_aload_n C dX9_best_5 rfl 0 rfl ?_
    refine gf_RX9_39 (k1 := 95) C kd_0 rfl dX9_best_6 ?_
    refine zm_aload_n C dX9_best_9 rfl 0 rfl ?_
    refine gf_RX9_10 (k1 := 1) C kd_0 rfl dX9_best_10 ?_
    refine gf_RX9_138 (k1 := 2) C kd_1 rfl dX9_best_13 ?_
    refine zm_cv (zr_V (As := [.ref (g.2.2.1 2)]) (rest := []) C (c_X7_solve l g u_2 W 95 2 kd_95 kd_2 h) wd_594 wd_595 wd_596 wd_6 wd_597 hy_X7_solve rfl rfl ⟨by decide, by decide⟩ ⟨by decide, by decide⟩ (ci := 7) (by decide) (zCell_k kd_95) rfl rfl rfl rfl (Nat.le_of_ble_eq_true rfl) dX9_best_16) (fun M1 hq => ?_)
    obtain ⟨u_4, rfl, h⟩ := hq
    refine zm_aload_n C dX9_best_19 rfl 0 rfl ?_
    refine gf_RX9_39 (k1 := 95) C kd_0 rfl dX9_best_20 ?_
    refine zm_aload_n C dX9_best_23 rfl 0 rfl ?_
    refine gf_RX9_10 (k1 := 1) C kd_0 rfl dX9_best_24 ?_
    refine gf_RX9_138 (k1 := 2) C kd_1 rfl dX9_best_27 ?_
    refine zm_iload_n C dX9_best_30 rfl 1 rfl ?_
    refine zm_ci (zr_V (As := [.ref (g.2.2.1 2), .int x1]) (rest := []) C (c_X7_bestMove l g u_4 W 95 2 kd_95 kd_2 x1 h) wd_813 wd_814 wd_815 wd_6 wd_816 hy_X7_bestMove rfl rfl ⟨by decide, by decide⟩ ⟨by decide, by decide⟩ (ci := 7) (by decide) (zCell_k kd_95) rfl rfl rfl rfl (Nat.le_of_ble_eq_true rfl) dX9_best_31) (fun r_5 M1 hq => ?_)
    obtain ⟨rfl, h⟩ := hq
    refine zm_istore_n (lv' := [(2, .int r_5), (0, .ref (g.2.2.1 0)), (1, .int x1)]) C dX9_best_34 rfl (by decide) rfl ?_
    refine zm_iload_n C dX9_best_35 rfl 0 rfl ?_
    refine zm_iconst (v := -1) C dX9_best_36 (by decide) ?_
    refine zm_icmp_ne (tgt := 50) C dX9_best_37 (by decide) (fun hc_7 => ?_) (fun hc_7 => ?_)
    · have h := h.1 hc_7
      refine zm_iload_n C dX9_best_50 rfl 0 rfl ?_
      refine zm_vx (by decide) (by decide) ?_
      exact zm_iret C hr dX9_best_51 ⟨_, rfl, h⟩
    · have h := h.2 hc_7
      exact zm_throwN C hstk wd_875 wd_22 (is := 213) (text := "the position has no move") (by decide) hat_NoSuchElementException_132 hgd_NoSuchElementException_132_128 dX9_best_40 dX9_best_43 dX9_best_44 dX9_best_46 dX9_best_49 ht (Nat.le_of_ble_eq_true rfl) (Nat.le_of_ble_eq_true rfl) (Nat.le_of_ble_eq_true rfl) (Nat.le_of_ble_eq_true rfl) (Nat.le_of_ble_eq_true rfl) (Nat.le_of_ble_eq_true rfl) ⟨_, rfl, h⟩
abbrev rm_X9_after : Room := { frames := 7, cells := 2, slots := 12, locals := 111 }
def w_X9_after (x1 : Int32) (x2 : Int32) (x3 : Int32) (u : MU) (Q : Int32 → MU → Prop) (X : String → MU → Prop) : Prop := w_X9_needPosition x1 u (fun u_2 => w_X1_allows 2 u_2 x1 x2 x3 (fun r_3 => ((¬ r_3 = 0) → w_X9_shifted x1 x2 x3 (fun r_6 => Q r_6 u_2)) ∧ ((r_3 = 0) → X "java/util/NoSuchElementException" u_2))) X
set_option maxHeartbeats 4000000 in
set_option maxRecDepth 100000 in
theorem c_X9_after (l : Launch) (hstk : l.stackTraces = false) (g : GE) (u : MU) (W : MU × ((Nat → Int64) × (Nat → UInt64))) (x1 : Int32) (x2 : Int32) (x3 : Int32) {Q : Int32 → MU → Prop} {X : String → MU → Prop} (h : w_X9_after x1 x2 x3 u Q X) : vx_Met l yX9_after (.code yX9_after cX9_after 4 (Option.some Jvm.ClassFile.FieldType.int) :: TB) rm_X9_after (zPc g (u, W) [.ref (g.2.2.1 0), .int x1, .int x2, .int x3]) (zQi g (zPx W Q)) (zXC g (zXx W X)) 2 12 (zA g) := by
  unfold w_X9_after at h
  refine zMetX (own := RX9) [(0, .ref (g.2.2.1 0)), (1, .int x1), (2, .int x2), (3, .int x3)] (by decide +kernel) rfl (Nat.le_of_ble_eq_true rfl) rfl (fun p e s m args below meth c C hr ht => ?_)
  refine zm_aload_n C dX9_after_0 rfl 0 rfl ?_
  refine zm_iload_n C dX9_after_1 rfl 1 rfl ?_
  refine zx_cv (zrX_V (As := [.int x1]) (rest := []) C (c_X9_needPosition l hstk g u W x1 h) wd_979 wd_981 wp_27 wd_1 wd_982 hy_X9_needPosition rfl rfl ⟨by decide, by decide⟩ ⟨by decide, by decide⟩ (ci := 9) (by decide) (zCell_k kd_0) rfl rfl rfl rfl (Nat.le_of_ble_eq_true rfl) dX9_after_2) (fun E M1 hq => ?_) (fun M1 hq => ?_)
  · obtain ⟨u_2, rfl, h⟩ := hq
    exact zm_out C ht (by decide) (by decide) ⟨_, rfl, h⟩
  · obtain ⟨u_2, rfl, h⟩ := hq
    refine zm_aload_n C dX9_after_5 rfl 0 rfl ?_
    refine gf_RX9_10 (k1 := 1) C kd_0 rfl dX9_after_6 ?_
    refine gf_RX9_138 (k1 := 2) C kd_1 rfl dX9_after_9 ?_
    refine zm_iload_n C dX9_after_12 rfl 1 rfl ?_
    refine zm_iload_n C dX9_after_13 rfl 2 rfl ?_
    refine zm_iload_n C dX9_after_14 rfl 3 rfl ?_
    refine zm_ci (zr_V (As := [.int x1, .int x2, .int x3]) (rest := []) C (c_X1_allows l g u_2 W 2 kd_2 x1 x2 x3 h) wd_795 wd_796 wd_797 wd_3 wd_798 hy_X1_allows rfl rfl ⟨by decide, by decide⟩ ⟨by decide, by decide⟩ (ci := 1) (by decide) (zCell_k kd_2) rfl rfl rfl rfl (Nat.le_of_ble_eq_true rfl) dX9_after_15) (fun r_3 M1 hq => ?_)
    obtain ⟨rfl, h⟩ := hq
    refine zm_if_ne (tgt := 31) C dX9_after_18 (by decide) (fun hc_5 => ?_) (fun hc_5 => ?_)
    · have h := h.1 hc_5
      refine zm_iload_n C dX9_after_31 rfl 1 rfl ?_
      refine zm_iload_n C dX9_after_32 rfl 2 rfl ?_
      refine zm_iload_n C dX9_after_33 rfl 3 rfl ?_
      refine zm_ci (zr_S (As := [.int x1, .int x2, .int x3]) (rest := []) C (c_X9_shifted l g (u_2, W) x1 x2 x3 h) wd_803 wd_669 wd_1 wd_670 hy_X9_shifted rfl rfl ⟨by decide, by decide⟩ ⟨by decide, by decide⟩ rfl rfl (Nat.le_of_ble_eq_true rfl) dX9_after_34) (fun r_6 M1 hq => ?_)
      obtain ⟨rfl, h⟩ := hq
      refine zm_vx (by decide) (by decide) ?_
      exact zm_iret C hr dX9_after_37 ⟨_, rfl, h⟩
    · have h := h.2 hc_5
      exact zm_throwN C hstk wd_875 wd_22 (is := 218) (text := "there is no such move") (by decide) hat_NoSuchElementException_132 hgd_NoSuchElementException_132_128 dX9_after_21 dX9_after_24 dX9_after_25 dX9_after_27 dX9_after_30 ht (Nat.le_of_ble_eq_true rfl) (Nat.le_of_ble_eq_true rfl) (Nat.le_of_ble_eq_true rfl) (Nat.le_of_ble_eq_true rfl) (Nat.le_of_ble_eq_true rfl) (Nat.le_of_ble_eq_true rfl) ⟨_, rfl, h⟩
abbrev rm_X9_ends : Room := { frames := 7, cells := 2, slots := 12, locals := 111 }
def wl_X9_ends_47 (Q : Int32 → MU → Prop) (X : String → MU → Prop) : Nat → Int32 → Int32 → Int32 → MU → Prop
  | 0, _, _, _, _ => False
  | n + 1, x2, x3, x4, u => ((x2 ≤ x4) → Q x3 u) ∧ ((¬ x2 ≤ x4) → w_X7_bestMove 95 2 u x3 (fun r_2 => ((¬ r_2 = (-1 : Int32)) → w_X9_fromOf r_2 (fun r_5 => w_X9_toOf r_2 (fun r_7 => w_X9_shifted x3 r_5 r_7 (fun r_9 => ∀ x4_11, x4_11 = x4 + (1 : Int32) → wl_X9_ends_47   Q X n x2 r_9 x4_11 u)))) ∧ ((r_2 = (-1 : Int32)) → Q x3 u)))
set_option maxHeartbeats 4000000 in
set_option maxRecDepth 100000 in
theorem vl_X9_ends_47 {p : Program} {l : Launch} {e : Env} {s : State} {m : MethodId} {args : Array Value} {below : List Frame} {meth : Method} {c : Code} {g : GE} {W : MU × ((Nat → Int64) × (Nat → UInt64))} {Q : Int32 → MU → Prop} {X : String → MU → Prop} (C : zCx p l s m args meth c g RX9 cX9_ends 6) (hr : meth.sig.returnType = (Option.some Jvm.ClassFile.FieldType.int)) (hstk : l.stackTraces = false) (ht : ∀ x ∈ c.exceptionTable.toList, False) : ∀ (n : Nat) (x2 : Int32) (x3 : Int32) (x4 : Int32) (u : MU) , wl_X9_ends_47   Q X n x2 x3 x4 u → WM p l e rm_X9_ends s m args below meth c g 6 1 6 (vx_MQ below (zQi g (zPx W Q)) (zXC g (zXx W X)) args s 2 12 (zA g)) 47 [(0, .ref (g.2.2.1 0)), (2, .int x2), (3, .int x3), (4, .int x4)] [] (u, W) := by
  intro n
  induction n with
  | zero => intro _ _ _ _ h; exact h.elim
  | succ n ih =>
    intro x2 x3 x4 u h
    unfold wl_X9_ends_47 at h
    refine zm_iload C dX9_ends_47 3 rfl ?_
    refine zm_iload_n C dX9_ends_49 rfl 1 rfl ?_
    refine zm_icmp_ge (tgt := 100) C dX9_ends_50 (by decide) (fun hc_1 => ?_) (fun hc_1 => ?_)
    · have h := h.1 hc_1
      refine zm_iload_n C dX9_ends_100 rfl 2 rfl ?_
      refine zm_vx (by decide) (by decide) ?_
      exact zm_iret C hr dX9_ends_101 ⟨_, rfl, h⟩
    · have h := h.2 hc_1
      refine zm_aload_n C dX9_ends_53 rfl 0 rfl ?_
      refine gf_RX9_39 (k1 := 95) C kd_0 rfl dX9_ends_54 ?_
      refine zm_aload_n C dX9_ends_57 rfl 0 rfl ?_
      refine gf_RX9_10 (k1 := 1) C kd_0 rfl dX9_ends_58 ?_
      refine gf_RX9_138 (k1 := 2) C kd_1 rfl dX9_ends_61 ?_
      refine zm_iload_n C dX9_ends_64 rfl 2 rfl ?_
      refine zm_ci (zr_V (As := [.ref (g.2.2.1 2), .int x3]) (rest := []) C (c_X7_bestMove l g u W 95 2 kd_95 kd_2 x3 h) wd_813 wd_814 wd_815 wd_6 wd_816 hy_X7_bestMove rfl rfl ⟨by decide, by decide⟩ ⟨by decide, by decide⟩ (ci := 7) (by decide) (zCell_k kd_95) rfl rfl rfl rfl (Nat.le_of_ble_eq_true rfl) dX9_ends_65) (fun r_2 M1 hq => ?_)
      obtain ⟨rfl, h⟩ := hq
      refine zm_istore (lv' := [(5, .int r_2), (0, .ref (g.2.2.1 0)), (2, .int x2), (3, .int x3), (4, .int x4)]) C dX9_ends_68 (by decide) rfl ?_
      refine zm_iload C dX9_ends_70 0 rfl ?_
      refine zm_iconst (v := -1) C dX9_ends_72 (by decide) ?_
      refine zm_icmp_ne (tgt := 79) C dX9_ends_73 (by decide) (fun hc_4 => ?_) (fun hc_4 => ?_)
      · have h := h.1 hc_4
        refine zm_iload_n C dX9_ends_79 rfl 3 rfl ?_
        refine zm_iload C dX9_ends_80 0 rfl ?_
        refine zm_ci (zr_S (As := [.int r_2]) (rest := [.int x3]) C (c_X9_fromOf l g (u, W) r_2 h) wd_817 wd_663 wd_1 wd_664 hy_X9_fromOf rfl rfl ⟨by decide, by decide⟩ ⟨by decide, by decide⟩ rfl rfl (Nat.le_of_ble_eq_true rfl) dX9_ends_82) (fun r_5 M1 hq => ?_)
        obtain ⟨rfl, h⟩ := hq
        refine zm_iload C dX9_ends_85 0 rfl ?_
        refine zm_ci (zr_S (As := [.int r_2]) (rest := [.int r_5, .int x3]) C (c_X9_toOf l g (u, W) r_2 h) wd_818 wd_666 wd_1 wd_667 hy_X9_toOf rfl rfl ⟨by decide, by decide⟩ ⟨by decide, by decide⟩ rfl rfl (Nat.le_of_ble_eq_true rfl) dX9_ends_87) (fun r_7 M1 hq => ?_)
        obtain ⟨rfl, h⟩ := hq
        refine zm_ci (zr_S (As := [.int x3, .int r_5, .int r_7]) (rest := []) C (c_X9_shifted l g (u, W) x3 r_5 r_7 h) wd_803 wd_669 wd_1 wd_670 hy_X9_shifted rfl rfl ⟨by decide, by decide⟩ ⟨by decide, by decide⟩ rfl rfl (Nat.le_of_ble_eq_true rfl) dX9_ends_90) (fun r_9 M1 hq => ?_)
        obtain ⟨rfl, h⟩ := hq
        refine zm_istore_n (lv' := [(3, .int r_9), (5, .int r_2), (0, .ref (g.2.2.1 0)), (2, .int x2), (4, .int x4)]) C dX9_ends_93 rfl (by decide) rfl ?_
        obtain ⟨x4_11, hx4_11⟩ : ∃ z, z = x4 + (1 : Int32) := ⟨_, rfl⟩
        have h := h x4_11 hx4_11
        refine zm_iinc (v := x4_11) (lv' := [(4, .int x4_11), (3, .int r_9), (5, .int r_2), (0, .ref (g.2.2.1 0)), (2, .int x2)]) C dX9_ends_94 4 rfl (by rw [hx4_11]; rfl) (by decide) rfl ?_
        refine zm_goto (tgt := 47) C dX9_ends_97 (by decide) ?_
        exact zm_sub [3, 4, 1, 0] rfl (ih _ _ _ _ h)
      · have h := h.2 hc_4
        refine zm_goto (tgt := 100) C dX9_ends_76 (by decide) ?_
        refine zm_iload_n C dX9_ends_100 rfl 3 rfl ?_
        refine zm_vx (by decide) (by decide) ?_
        exact zm_iret C hr dX9_ends_101 ⟨_, rfl, h⟩
def w_X9_ends (x1 : Int32) (u : MU) (Q : Int32 → MU → Prop) (X : String → MU → Prop) : Prop := w_X9_needPosition x1 u (fun u_2 => w_X7_solve 95 2 u_2 (fun u_4 => w_X7_inMoves 95 u_4 x1 (fun r_5 => ((0 ≤ r_5) → ∃ nn, wl_X9_ends_47   Q X nn r_5 x1 (0 : Int32) u_4) ∧ ((¬ 0 ≤ r_5) → X "java/util/NoSuchElementException" u_4)))) X
set_option maxHeartbeats 4000000 in
set_option maxRecDepth 100000 in
theorem c_X9_ends (l : Launch) (hstk : l.stackTraces = false) (g : GE) (u : MU) (W : MU × ((Nat → Int64) × (Nat → UInt64))) (x1 : Int32) {Q : Int32 → MU → Prop} {X : String → MU → Prop} (h : w_X9_ends x1 u Q X) : vx_Met l yX9_ends (.code yX9_ends cX9_ends 6 (Option.some Jvm.ClassFile.FieldType.int) :: TB) rm_X9_ends (zPc g (u, W) [.ref (g.2.2.1 0), .int x1]) (zQi g (zPx W Q)) (zXC g (zXx W X)) 2 12 (zA g) := by
  unfold w_X9_ends at h
  refine zMetX (own := RX9) [(0, .ref (g.2.2.1 0)), (1, .int x1)] (by decide +kernel) rfl (Nat.le_of_ble_eq_true rfl) rfl (fun p e s m args below meth c C hr ht => ?_)
  refine zm_aload_n C dX9_ends_0 rfl 0 rfl ?_
  refine zm_iload_n C dX9_ends_1 rfl 1 rfl ?_
  refine zx_cv (zrX_V (As := [.int x1]) (rest := []) C (c_X9_needPosition l hstk g u W x1 h) wd_979 wd_981 wp_27 wd_1 wd_982 hy_X9_needPosition rfl rfl ⟨by decide, by decide⟩ ⟨by decide, by decide⟩ (ci := 9) (by decide) (zCell_k kd_0) rfl rfl rfl rfl (Nat.le_of_ble_eq_true rfl) dX9_ends_2) (fun E M1 hq => ?_) (fun M1 hq => ?_)
  · obtain ⟨u_2, rfl, h⟩ := hq
    exact zm_out C ht (by decide) (by decide) ⟨_, rfl, h⟩
  · obtain ⟨u_2, rfl, h⟩ := hq
    refine zm_aload_n C dX9_ends_5 rfl 0 rfl ?_
    refine gf_RX9_39 (k1 := 95) C kd_0 rfl dX9_ends_6 ?_
    refine zm_aload_n C dX9_ends_9 rfl 0 rfl ?_
    refine gf_RX9_10 (k1 := 1) C kd_0 rfl dX9_ends_10 ?_
    refine gf_RX9_138 (k1 := 2) C kd_1 rfl dX9_ends_13 ?_
    refine zm_cv (zr_V (As := [.ref (g.2.2.1 2)]) (rest := []) C (c_X7_solve l g u_2 W 95 2 kd_95 kd_2 h) wd_594 wd_595 wd_596 wd_6 wd_597 hy_X7_solve rfl rfl ⟨by decide, by decide⟩ ⟨by decide, by decide⟩ (ci := 7) (by decide) (zCell_k kd_95) rfl rfl rfl rfl (Nat.le_of_ble_eq_true rfl) dX9_ends_16) (fun M1 hq => ?_)
    obtain ⟨u_4, rfl, h⟩ := hq
    refine zm_aload_n C dX9_ends_19 rfl 0 rfl ?_
    refine gf_RX9_39 (k1 := 95) C kd_0 rfl dX9_ends_20 ?_
    refine zm_iload_n C dX9_ends_23 rfl 1 rfl ?_
    refine zm_ci (zr_V (As := [.int x1]) (rest := []) C (c_X7_inMoves l g u_4 W 95 kd_95 x1 h) wd_839 wd_840 wd_841 wd_6 wd_842 hy_X7_inMoves rfl rfl ⟨by decide, by decide⟩ ⟨by decide, by decide⟩ (ci := 7) (by decide) (zCell_k kd_95) rfl rfl rfl rfl (Nat.le_of_ble_eq_true rfl) dX9_ends_24) (fun r_5 M1 hq => ?_)
    obtain ⟨rfl, h⟩ := hq
    refine zm_istore_n (lv' := [(2, .int r_5), (0, .ref (g.2.2.1 0)), (1, .int x1)]) C dX9_ends_27 rfl (by decide) rfl ?_
    refine zm_iload_n C dX9_ends_28 rfl 0 rfl ?_
    refine zm_if_ge (tgt := 42) C dX9_ends_29 (by decide) (fun hc_7 => ?_) (fun hc_7 => ?_)
    · have h := h.1 hc_7
      refine zm_iload_n C dX9_ends_42 rfl 2 rfl ?_
      refine zm_istore_n (lv' := [(3, .int x1), (2, .int r_5), (0, .ref (g.2.2.1 0)), (1, .int x1)]) C dX9_ends_43 rfl (by decide) rfl ?_
      refine zm_iconst (v := 0) C dX9_ends_44 (by decide) ?_
      refine zm_istore (lv' := [(4, .int (0 : Int32)), (3, .int x1), (2, .int r_5), (0, .ref (g.2.2.1 0)), (1, .int x1)]) C dX9_ends_45 (by decide) rfl ?_
      obtain ⟨nn, h⟩ := h
      exact zm_sub [3, 2, 1, 0] rfl (vl_X9_ends_47 C hr hstk ht  nn _ _ _ _ h)
    · have h := h.2 hc_7
      exact zm_throwN C hstk wd_875 wd_22 (is := 224) (text := "the position is drawn") (by decide) hat_NoSuchElementException_132 hgd_NoSuchElementException_132_128 dX9_ends_32 dX9_ends_35 dX9_ends_36 dX9_ends_38 dX9_ends_41 ht (Nat.le_of_ble_eq_true rfl) (Nat.le_of_ble_eq_true rfl) (Nat.le_of_ble_eq_true rfl) (Nat.le_of_ble_eq_true rfl) (Nat.le_of_ble_eq_true rfl) (Nat.le_of_ble_eq_true rfl) ⟨_, rfl, h⟩
abbrev rm_X9_count : Room := { frames := 6, cells := 1, slots := 6, locals := 107 }
def wb_X9_count_9 (Q : Int32 → MU → Prop) (X : String → MU → Prop) (u : MU) : Prop := X "java/lang/IllegalArgumentException" u
set_option maxHeartbeats 4000000 in
set_option maxRecDepth 100000 in
theorem vb_X9_count_9 {p : Program} {l : Launch} {e : Env} {s : State} {m : MethodId} {args : Array Value} {below : List Frame} {meth : Method} {c : Code} {g : GE} {W : MU × ((Nat → Int64) × (Nat → UInt64))} {Q : Int32 → MU → Prop} {X : String → MU → Prop} (C : zCx p l s m args meth c g RX9 cX9_count 7) (hr : meth.sig.returnType = (Option.some Jvm.ClassFile.FieldType.int)) (hstk : l.stackTraces = false) (ht : ∀ x ∈ c.exceptionTable.toList, False) (u : MU) (h : wb_X9_count_9   Q X  u) : WM p l e rm_X9_count s m args below meth c g 7 0 0 (vx_MQ below (zQi g (zPx W Q)) (zXC g (zXx W X)) args s 1 6 (zA g)) 9 [] [] (u, W) := by
  unfold wb_X9_count_9 at h
  exact zm_throw (names := ["java/lang/RuntimeException", "java/lang/Exception"]) C hstk fit_IllegalArgumentException fit_names wd_560 wd_18 (is := 226) (text := "there is no such outcome") (by decide) hat_IllegalArgumentException_155 hgd_IllegalArgumentException_155_151 dX9_count_9 dX9_count_12 dX9_count_13 dX9_count_15 dX9_count_18 ht (Nat.le_of_ble_eq_true rfl) (Nat.le_of_ble_eq_true rfl) (Nat.le_of_ble_eq_true rfl) (Nat.le_of_ble_eq_true rfl) (Nat.le_of_ble_eq_true rfl) (Nat.le_of_ble_eq_true rfl) ⟨_, rfl, h⟩
def wb_X9_count_97 (L49 : Int32 → Int32 → Int32 → Int32 → MU → Prop) (Q : Int32 → MU → Prop) (X : String → MU → Prop) (x1 : Int32) (x3 : Int32) (x4 : Int32) (x5 : Int32) (u : MU) : Prop := ∀ x5_1, x5_1 = x5 + (1 : Int32) → L49 x1 x3 x4 x5_1 u
set_option maxHeartbeats 4000000 in
set_option maxRecDepth 100000 in
theorem vb_X9_count_97 {p : Program} {l : Launch} {e : Env} {s : State} {m : MethodId} {args : Array Value} {below : List Frame} {meth : Method} {c : Code} {g : GE} {W : MU × ((Nat → Int64) × (Nat → UInt64))} {Q : Int32 → MU → Prop} {X : String → MU → Prop} (C : zCx p l s m args meth c g RX9 cX9_count 7) (hr : meth.sig.returnType = (Option.some Jvm.ClassFile.FieldType.int)) (hstk : l.stackTraces = false) (ht : ∀ x ∈ c.exceptionTable.toList, False) {L49 : Int32 → Int32 → Int32 → Int32 → MU → Prop} (hL49 : ∀ (x1 : Int32) (x3 : Int32) (x4 : Int32) (x5 : Int32) (u : MU), L49 x1 x3 x4 x5 u → WM p l e rm_X9_count s m args below meth c g 7 0 0 (vx_MQ below (zQi g (zPx W Q)) (zXC g (zXx W X)) args s 1 6 (zA g)) 49 [(0, .ref (g.2.2.1 0)), (1, .int x1), (3, .int x3), (4, .int x4), (5, .int x5)] [] (u, W)) (x1 : Int32) (x3 : Int32) (x4 : Int32) (x5 : Int32) (u : MU) (h : wb_X9_count_97 L49  Q X x1 x3 x4 x5 u) : WM p l e rm_X9_count s m args below meth c g 7 0 0 (vx_MQ below (zQi g (zPx W Q)) (zXC g (zXx W X)) args s 1 6 (zA g)) 97 [(0, .ref (g.2.2.1 0)), (1, .int x1), (3, .int x3), (4, .int x4), (5, .int x5)] [] (u, W) := by
  unfold wb_X9_count_97 at h
  obtain ⟨x5_1, hx5_1⟩ : ∃ z, z = x5 + (1 : Int32) := ⟨_, rfl⟩
  have h := h x5_1 hx5_1
  refine zm_iinc (v := x5_1) (lv' := [(5, .int x5_1), (0, .ref (g.2.2.1 0)), (1, .int x1), (3, .int x3), (4, .int x4)]) C dX9_count_97 4 rfl (by rw [hx5_1]; rfl) (by decide) rfl ?_
  refine zm_goto (tgt := 49) C dX9_count_100 (by decide) ?_
  exact zm_sub [1, 2, 3, 4, 0] rfl (hL49 _ _ _ _ _ h)
def wl_X9_count_49 (Q : Int32 → MU → Prop) (X : String → MU → Prop) : Nat → Int32 → Int32 → Int32 → Int32 → MU → Prop
  | 0, _, _, _, _, _ => False
  | n + 1, x1, x3, x4, x5, u => (((u 95 0) ≤ x5) → Q x4 u) ∧ ((¬ (u 95 0) ≤ x5) → w_X7_positionAt 95 u x5 (fun r_2 => w_X9_turnOf r_2 (fun r_4 => ((¬ r_4 = x3) → wb_X9_count_97 (fun x1' x3' x4' x5' u' => wl_X9_count_49  Q X n x1' x3' x4' x5' u')  Q X x1 x3 x4 x5 u) ∧ ((r_4 = x3) → w_X7_outcomeOf 95 u r_2 (fun r_7 => ((¬ r_7 = x1) → wb_X9_count_97 (fun x1' x3' x4' x5' u' => wl_X9_count_49  Q X n x1' x3' x4' x5' u')  Q X x1 x3 x4 x5 u) ∧ ((r_7 = x1) → ∀ x4_10, x4_10 = x4 + (1 : Int32) → wb_X9_count_97 (fun x1' x3' x4' x5' u' => wl_X9_count_49  Q X n x1' x3' x4' x5' u')  Q X x1 x3 x4_10 x5 u))))))
set_option maxHeartbeats 4000000 in
set_option maxRecDepth 100000 in
theorem vl_X9_count_49 {p : Program} {l : Launch} {e : Env} {s : State} {m : MethodId} {args : Array Value} {below : List Frame} {meth : Method} {c : Code} {g : GE} {W : MU × ((Nat → Int64) × (Nat → UInt64))} {Q : Int32 → MU → Prop} {X : String → MU → Prop} (C : zCx p l s m args meth c g RX9 cX9_count 7) (hr : meth.sig.returnType = (Option.some Jvm.ClassFile.FieldType.int)) (hstk : l.stackTraces = false) (ht : ∀ x ∈ c.exceptionTable.toList, False) : ∀ (n : Nat) (x1 : Int32) (x3 : Int32) (x4 : Int32) (x5 : Int32) (u : MU) , wl_X9_count_49   Q X n x1 x3 x4 x5 u → WM p l e rm_X9_count s m args below meth c g 7 0 0 (vx_MQ below (zQi g (zPx W Q)) (zXC g (zXx W X)) args s 1 6 (zA g)) 49 [(0, .ref (g.2.2.1 0)), (1, .int x1), (3, .int x3), (4, .int x4), (5, .int x5)] [] (u, W) := by
  intro n
  induction n with
  | zero => intro _ _ _ _ _ h; exact h.elim
  | succ n ih =>
    intro x1 x3 x4 x5 u h
    unfold wl_X9_count_49 at h
    refine zm_iload C dX9_count_49 4 rfl ?_
    refine zm_aload_n C dX9_count_51 rfl 0 rfl ?_
    refine gf_RX9_39 (k1 := 95) C kd_0 rfl dX9_count_52 ?_
    refine gf_RX9_228 C kd_95 dX9_count_55 ?_
    refine zm_icmp_ge (tgt := 103) C dX9_count_58 (by decide) (fun hc_1 => ?_) (fun hc_1 => ?_)
    · have h := h.1 hc_1
      refine zm_iload C dX9_count_103 3 rfl ?_
      refine zm_vx (by decide) (by decide) ?_
      exact zm_iret C hr dX9_count_105 ⟨_, rfl, h⟩
    · have h := h.2 hc_1
      refine zm_aload_n C dX9_count_61 rfl 0 rfl ?_
      refine gf_RX9_39 (k1 := 95) C kd_0 rfl dX9_count_62 ?_
      refine zm_iload C dX9_count_65 4 rfl ?_
      refine zm_ci (zr_V (As := [.int x5]) (rest := []) C (c_X7_positionAt l g u W 95 kd_95 x5 h) wd_683 wd_684 wd_685 wd_6 wd_686 hy_X7_positionAt rfl rfl ⟨by decide, by decide⟩ ⟨by decide, by decide⟩ (ci := 7) (by decide) (zCell_k kd_95) rfl rfl rfl rfl (Nat.le_of_ble_eq_true rfl) dX9_count_67) (fun r_2 M1 hq => ?_)
      obtain ⟨rfl, h⟩ := hq
      refine zm_istore (lv' := [(6, .int r_2), (0, .ref (g.2.2.1 0)), (1, .int x1), (3, .int x3), (4, .int x4), (5, .int x5)]) C dX9_count_70 (by decide) rfl ?_
      refine zm_iload C dX9_count_72 0 rfl ?_
      refine zm_ci (zr_S (As := [.int r_2]) (rest := []) C (c_X9_turnOf l g (u, W) r_2 h) wd_674 wd_629 wd_1 wd_630 hy_X9_turnOf rfl rfl ⟨by decide, by decide⟩ ⟨by decide, by decide⟩ rfl rfl (Nat.le_of_ble_eq_true rfl) dX9_count_74) (fun r_4 M1 hq => ?_)
      obtain ⟨rfl, h⟩ := hq
      refine zm_iload_n C dX9_count_77 rfl 3 rfl ?_
      refine zm_icmp_ne (tgt := 97) C dX9_count_78 (by decide) (fun hc_6 => ?_) (fun hc_6 => ?_)
      · have h := h.1 hc_6
        exact zm_sub [1, 2, 3, 4, 5] rfl (vb_X9_count_97 C hr hstk ht ih _ _ _ _ _ h)
      · have h := h.2 hc_6
        refine zm_aload_n C dX9_count_81 rfl 1 rfl ?_
        refine gf_RX9_39 (k1 := 95) C kd_0 rfl dX9_count_82 ?_
        refine zm_iload C dX9_count_85 0 rfl ?_
        refine zm_ci (zr_V (As := [.int r_2]) (rest := []) C (c_X7_outcomeOf l g u W 95 kd_95 r_2 h) wd_970 wd_692 wd_693 wd_6 wd_694 hy_X7_outcomeOf rfl rfl ⟨by decide, by decide⟩ ⟨by decide, by decide⟩ (ci := 7) (by decide) (zCell_k kd_95) rfl rfl rfl rfl (Nat.le_of_ble_eq_true rfl) dX9_count_87) (fun r_7 M1 hq => ?_)
        obtain ⟨rfl, h⟩ := hq
        refine zm_iload_n C dX9_count_90 rfl 2 rfl ?_
        refine zm_icmp_ne (tgt := 97) C dX9_count_91 (by decide) (fun hc_9 => ?_) (fun hc_9 => ?_)
        · have h := h.1 hc_9
          exact zm_sub [1, 2, 3, 4, 5] rfl (vb_X9_count_97 C hr hstk ht ih _ _ _ _ _ h)
        · have h := h.2 hc_9
          obtain ⟨x4_10, hx4_10⟩ : ∃ z, z = x4 + (1 : Int32) := ⟨_, rfl⟩
          have h := h x4_10 hx4_10
          refine zm_iinc (v := x4_10) (lv' := [(4, .int x4_10), (6, .int r_2), (0, .ref (g.2.2.1 0)), (1, .int x1), (3, .int x3), (5, .int x5)]) C dX9_count_94 4 rfl (by rw [hx4_10]; rfl) (by decide) rfl ?_
          exact zm_sub [2, 3, 4, 0, 5] rfl (vb_X9_count_97 C hr hstk ht ih _ _ _ _ _ h)
def wb_X9_count_42 (Q : Int32 → MU → Prop) (X : String → MU → Prop) (x1 : Int32) (s0 : Int32) (u : MU) : Prop := ∃ nn, wl_X9_count_49   Q X nn x1 s0 (0 : Int32) (0 : Int32) u
set_option maxHeartbeats 4000000 in
set_option maxRecDepth 100000 in
theorem vb_X9_count_42 {p : Program} {l : Launch} {e : Env} {s : State} {m : MethodId} {args : Array Value} {below : List Frame} {meth : Method} {c : Code} {g : GE} {W : MU × ((Nat → Int64) × (Nat → UInt64))} {Q : Int32 → MU → Prop} {X : String → MU → Prop} (C : zCx p l s m args meth c g RX9 cX9_count 7) (hr : meth.sig.returnType = (Option.some Jvm.ClassFile.FieldType.int)) (hstk : l.stackTraces = false) (ht : ∀ x ∈ c.exceptionTable.toList, False) (x1 : Int32) (s0 : Int32) (u : MU) (h : wb_X9_count_42   Q X x1 s0 u) : WM p l e rm_X9_count s m args below meth c g 7 0 0 (vx_MQ below (zQi g (zPx W Q)) (zXC g (zXx W X)) args s 1 6 (zA g)) 42 [(0, .ref (g.2.2.1 0)), (1, .int x1)] [.int s0] (u, W) := by
  unfold wb_X9_count_42 at h
  refine zm_istore_n (lv' := [(3, .int s0), (0, .ref (g.2.2.1 0)), (1, .int x1)]) C dX9_count_42 rfl (by decide) rfl ?_
  refine zm_iconst (v := 0) C dX9_count_43 (by decide) ?_
  refine zm_istore (lv' := [(4, .int (0 : Int32)), (3, .int s0), (0, .ref (g.2.2.1 0)), (1, .int x1)]) C dX9_count_44 (by decide) rfl ?_
  refine zm_iconst (v := 0) C dX9_count_46 (by decide) ?_
  refine zm_istore (lv' := [(5, .int (0 : Int32)), (4, .int (0 : Int32)), (3, .int s0), (0, .ref (g.2.2.1 0)), (1, .int x1)]) C dX9_count_47 (by decide) rfl ?_
  obtain ⟨nn, h⟩ := h
  exact zm_sub [3, 4, 2, 1, 0] rfl (vl_X9_count_49 C hr hstk ht  nn _ _ _ _ _ h)
def w_X9_count (x1 : Int32) (x2 : Int32) (u : MU) (Q : Int32 → MU → Prop) (X : String → MU → Prop) : Prop := ((x1 < 0) → wb_X9_count_9   Q X u) ∧ ((¬ x1 < 0) → ((x1 ≤ (2 : Int32)) → w_X7_solve 95 2 u (fun u_4 => ((x2 = 0) → wb_X9_count_42   Q X x1 (0 : Int32) u_4) ∧ ((¬ x2 = 0) → wb_X9_count_42   Q X x1 (1 : Int32) u_4))) ∧ ((¬ x1 ≤ (2 : Int32)) → wb_X9_count_9   Q X u))
set_option maxHeartbeats 4000000 in
set_option maxRecDepth 100000 in
theorem c_X9_count (l : Launch) (hstk : l.stackTraces = false) (g : GE) (u : MU) (W : MU × ((Nat → Int64) × (Nat → UInt64))) (x1 : Int32) (x2 : Int32) {Q : Int32 → MU → Prop} {X : String → MU → Prop} (h : w_X9_count x1 x2 u Q X) : vx_Met l yX9_count (.code yX9_count cX9_count 7 (Option.some Jvm.ClassFile.FieldType.int) :: TB) rm_X9_count (zPc g (u, W) [.ref (g.2.2.1 0), .int x1, .int x2]) (zQi g (zPx W Q)) (zXC g (zXx W X)) 1 6 (zA g) := by
  unfold w_X9_count at h
  refine zMetX (own := RX9) [(0, .ref (g.2.2.1 0)), (1, .int x1), (2, .int x2)] (by decide +kernel) rfl (Nat.le_of_ble_eq_true rfl) rfl (fun p e s m args below meth c C hr ht => ?_)
  refine zm_iload_n C dX9_count_0 rfl 1 rfl ?_
  refine zm_if_lt (tgt := 9) C dX9_count_1 (by decide) (fun hc_1 => ?_) (fun hc_1 => ?_)
  · have h := h.1 hc_1
    exact zm_sub [] rfl (vb_X9_count_9 C hr hstk ht  _ h)
  · have h := h.2 hc_1
    refine zm_iload_n C dX9_count_4 rfl 1 rfl ?_
    refine zm_iconst (v := 2) C dX9_count_5 (by decide) ?_
    refine zm_icmp_le (tgt := 19) C dX9_count_6 (by decide) (fun hc_2 => ?_) (fun hc_2 => ?_)
    · have h := h.1 hc_2
      refine zm_aload_n C dX9_count_19 rfl 0 rfl ?_
      refine gf_RX9_39 (k1 := 95) C kd_0 rfl dX9_count_20 ?_
      refine zm_aload_n C dX9_count_23 rfl 0 rfl ?_
      refine gf_RX9_10 (k1 := 1) C kd_0 rfl dX9_count_24 ?_
      refine gf_RX9_138 (k1 := 2) C kd_1 rfl dX9_count_27 ?_
      refine zm_cv (zr_V (As := [.ref (g.2.2.1 2)]) (rest := []) C (c_X7_solve l g u W 95 2 kd_95 kd_2 h) wd_594 wd_595 wd_596 wd_6 wd_597 hy_X7_solve rfl rfl ⟨by decide, by decide⟩ ⟨by decide, by decide⟩ (ci := 7) (by decide) (zCell_k kd_95) rfl rfl rfl rfl (Nat.le_of_ble_eq_true rfl) dX9_count_30) (fun M1 hq => ?_)
      obtain ⟨u_4, rfl, h⟩ := hq
      refine zm_iload_n C dX9_count_33 rfl 2 rfl ?_
      refine zm_if_eq (tgt := 41) C dX9_count_34 (by decide) (fun hc_5 => ?_) (fun hc_5 => ?_)
      · have h := h.1 hc_5
        refine zm_iconst (v := 0) C dX9_count_41 (by decide) ?_
        exact zm_sub [0, 1] rfl (vb_X9_count_42 C hr hstk ht  _ _ _ h)
      · have h := h.2 hc_5
        refine zm_iconst (v := 1) C dX9_count_37 (by decide) ?_
        refine zm_goto (tgt := 42) C dX9_count_38 (by decide) ?_
        exact zm_sub [0, 1] rfl (vb_X9_count_42 C hr hstk ht  _ _ _ h)
    · have h := h.2 hc_2
      exact zm_sub [] rfl (vb_X9_count_9 C hr hstk ht  _ h)
