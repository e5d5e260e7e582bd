abbrev rm_X3_markOf : Room := { frames := 0, cells := 0, slots := 0, locals := 0 }
def w_X3_markOf (x0 : Int32) (Q : Int32 → Prop) : Prop := (x0 = (109 : Int32) → Q (62 : Int32)) ∧ (¬ x0 = (109 : Int32) → (x0 = (112 : Int32) → Q (45 : Int32)) ∧ (¬ x0 = (112 : Int32) → (x0 = (120 : Int32) → Q (45 : Int32)) ∧ (¬ x0 = (120 : Int32) → Q (32 : Int32))))
set_option maxHeartbeats 4000000 in
set_option maxRecDepth 100000 in
theorem c_X3_markOf (l : Launch) (g : GE) (M : Mem) (x0 : Int32) {Q : Int32 → Prop} (h : w_X3_markOf x0 Q) : Met l yX3_markOf (.code yX3_markOf cX3_markOf 1 (Option.some Jvm.ClassFile.FieldType.char) :: TB) rm_X3_markOf (zPc g M [.int x0]) (zQi g (zP0 M Q)) 0 0 (zA g) := by
  unfold w_X3_markOf at h
  refine zMet (own := RX3) [(0, .int x0)] (by decide +kernel) rfl (Nat.le_of_ble_eq_true rfl) rfl (fun p e s m args below meth c C hr => ?_)
  refine zm_iload_n C dX3_markOf_0 rfl 0 rfl ?_
  by_cases hc_2 : x0 = (109 : Int32)
  · have h := h.1 hc_2
    refine zm_lookup (off := 38) (tgt := 39) C dX3_markOf_1 (by decide) (by rw [hc_2] <;> rfl) (by decide) ?_
    refine zm_bipush (v := 62) C dX3_markOf_39 (by decide) ?_
    exact zm_zret (ty := .char) C hr (by decide) dX3_markOf_41 ⟨rfl, h⟩
  · have h := h.2 hc_2
    by_cases hc_3 : x0 = (112 : Int32)
    · have h := h.1 hc_3
      refine zm_lookup (off := 35) (tgt := 36) C dX3_markOf_1 (by decide) (by rw [hc_3] <;> rfl) (by decide) ?_
      refine zm_bipush (v := 45) C dX3_markOf_36 (by decide) ?_
      exact zm_zret (ty := .char) C hr (by decide) dX3_markOf_38 ⟨rfl, h⟩
    · have h := h.2 hc_3
      by_cases hc_4 : x0 = (120 : Int32)
      · have h := h.1 hc_4
        refine zm_lookup (off := 35) (tgt := 36) C dX3_markOf_1 (by decide) (by rw [hc_4] <;> rfl) (by decide) ?_
        refine zm_bipush (v := 45) C dX3_markOf_36 (by decide) ?_
        exact zm_zret (ty := .char) C hr (by decide) dX3_markOf_38 ⟨rfl, h⟩
      · have h := h.2 hc_4
        refine zm_lookup (off := 41) (tgt := 42) C dX3_markOf_1 (by decide) ((lv_osw hc_2 (by decide)).trans ((lv_osw hc_3 (by decide)).trans ((lv_osw hc_4 (by decide)).trans rfl))) (by decide) ?_
        refine zm_bipush (v := 32) C dX3_markOf_42 (by decide) ?_
        exact zm_zret (ty := .char) C hr (by decide) dX3_markOf_44 ⟨rfl, h⟩
abbrev rm_X3_isCommand : Room := { frames := 2, cells := 0, slots := 0, locals := 46 }
def wb_X3_isCommand_104 (k1 : Nat) (Q : Int32 → MU → Prop) (x2 : Int32) (x4 : Int32) (x5 : Int32) (u : MU) : Prop := ((¬ x5 = (-1 : Int32)) → w_X9_put 113 (u 112 0) x2 u (fun u_3 => w_X9_put 114 (u_3 112 0) x4 u_3 (fun u_5 => w_X9_put 115 (u_5 112 0) x5 u_5 (fun u_7 => (∀ u_8, u_8 = u2 u_7 112 0 ((u_7 112 0) + (1 : Int32)) → Q (1 : Int32) u_8))))) ∧ ((x5 = (-1 : Int32)) → Q (0 : Int32) u)
set_option maxHeartbeats 4000000 in
set_option maxRecDepth 100000 in
theorem vb_X3_isCommand_104 {p : Program} {l : Launch} {e : Env} {s : State} {m : MethodId} {args : Array Value} {below : List Frame} {meth : Method} {c : Code} {g : GE} {W : MU × ((Nat → Int64) × (Nat → UInt64))} {k1 : Nat} {Q : Int32 → MU → Prop} (C : zCx p l s m args meth c g RX3 cX3_isCommand 7) (hr : meth.sig.returnType = (Option.some Jvm.ClassFile.FieldType.boolean)) (hk1 : zkd k1 = 11) (x2 : Int32) (x4 : Int32) (x5 : Int32) (u : MU) (h : wb_X3_isCommand_104  k1 Q x2 x4 x5 u) : WM p l e rm_X3_isCommand s m args below meth c g 7 0 0 (MQ below (zQi g (zPx W Q)) args s 0 0 (zA g)) 104 [(0, .ref (g.2.2.1 112)), (2, .int x2), (4, .int x4), (5, .int x5)] [] (u, W) := by
  unfold wb_X3_isCommand_104 at h
  refine zm_iload C dX3_isCommand_104 3 rfl ?_
  refine zm_iconst (v := -1) C dX3_isCommand_106 (by decide) ?_
  refine zm_icmp_ne (tgt := 112) C dX3_isCommand_107 (by decide) (fun hc_1 => ?_) (fun hc_1 => ?_)
  · have h := h.1 hc_1
    refine zm_aload_n C dX3_isCommand_112 rfl 0 rfl ?_
    refine gf_RX3_9 (k1 := 113) C kd_112 rfl dX3_isCommand_113 ?_
    refine zm_aload_n C dX3_isCommand_116 rfl 0 rfl ?_
    refine gf_RX3_25 C kd_112 dX3_isCommand_117 ?_
    refine zm_iload_n C dX3_isCommand_120 rfl 1 rfl ?_
    refine zm_cv (zr_SN (As := [.ref (g.2.2.1 113), .int (u 112 0), .int x2]) (rest := []) C (c_X9_put l g u W 113 kd_113 (u 112 0) x2 h) wd_762 wd_480 wd_1 wd_481 hz_X9_put rfl rfl ⟨by decide, by decide⟩ ⟨by decide, by decide⟩ rfl rfl (Nat.le_of_ble_eq_true rfl) dX3_isCommand_121) (fun M1 hq => ?_)
    obtain ⟨u_3, rfl, h⟩ := hq
    refine zm_aload_n C dX3_isCommand_124 rfl 0 rfl ?_
    refine gf_RX3_15 (k1 := 114) C kd_112 rfl dX3_isCommand_125 ?_
    refine zm_aload_n C dX3_isCommand_128 rfl 0 rfl ?_
    refine gf_RX3_25 C kd_112 dX3_isCommand_129 ?_
    refine zm_iload C dX3_isCommand_132 2 rfl ?_
    refine zm_cv (zr_SN (As := [.ref (g.2.2.1 114), .int (u_3 112 0), .int x4]) (rest := []) C (c_X9_put l g u_3 W 114 kd_114 (u_3 112 0) x4 h) wd_762 wd_480 wd_1 wd_481 hz_X9_put rfl rfl ⟨by decide, by decide⟩ ⟨by decide, by decide⟩ rfl rfl (Nat.le_of_ble_eq_true rfl) dX3_isCommand_134) (fun M1 hq => ?_)
    obtain ⟨u_5, rfl, h⟩ := hq
    refine zm_aload_n C dX3_isCommand_137 rfl 0 rfl ?_
    refine gf_RX3_18 (k1 := 115) C kd_112 rfl dX3_isCommand_138 ?_
    refine zm_aload_n C dX3_isCommand_141 rfl 0 rfl ?_
    refine gf_RX3_25 C kd_112 dX3_isCommand_142 ?_
    refine zm_iload C dX3_isCommand_145 3 rfl ?_
    refine zm_cv (zr_SN (As := [.ref (g.2.2.1 115), .int (u_5 112 0), .int x5]) (rest := []) C (c_X9_put l g u_5 W 115 kd_115 (u_5 112 0) x5 h) wd_762 wd_480 wd_1 wd_481 hz_X9_put rfl rfl ⟨by decide, by decide⟩ ⟨by decide, by decide⟩ rfl rfl (Nat.le_of_ble_eq_true rfl) dX3_isCommand_147) (fun M1 hq => ?_)
    obtain ⟨u_7, rfl, h⟩ := hq
    refine zm_aload_n C dX3_isCommand_150 rfl 0 rfl ?_
    refine zm_dup C dX3_isCommand_151 rfl ?_
    refine gf_RX3_25 C kd_112 dX3_isCommand_152 ?_
    refine zm_iconst (v := 1) C dX3_isCommand_155 (by decide) ?_
    refine zm_iadd C dX3_isCommand_156 ?_
    refine pf_RX3_25 C kd_112  dX3_isCommand_157 (fun u_8 hu_8 => ?_)
    have h := h u_8 hu_8
    refine zm_iconst (v := 1) C dX3_isCommand_160 (by decide) ?_
    exact zm_zret (ty := .boolean) C hr (by decide) dX3_isCommand_161 ⟨_, rfl, h⟩
  · have h := h.2 hc_1
    refine zm_iconst (v := 0) C dX3_isCommand_110 (by decide) ?_
    exact zm_zret (ty := .boolean) C hr (by decide) dX3_isCommand_111 ⟨_, rfl, h⟩
def wb_X3_isCommand_45 (k1 : Nat) (Q : Int32 → MU → Prop) (x2 : Int32) (s0 : Int32) (u : MU) : Prop := ((¬ s0 = (-1 : Int32)) → w_X3_markOf x2 (fun r_2 => ((r_2 = (32 : Int32)) → wb_X3_isCommand_104  k1 Q x2 s0 (0 : Int32) u) ∧ ((¬ r_2 = (32 : Int32)) → w_X8_sign k1 u (u 112 4) (fun r_5 => ((r_5 = r_2) → (∀ u_8, u_8 = u2 u 112 4 ((u 112 4) + (1 : Int32)) → w_X3_numberIn k1 (1 : Int32) u_8 (fun r_9 u_10 => wb_X3_isCommand_104  k1 Q x2 s0 r_9 u_10))) ∧ ((¬ r_5 = r_2) → Q (0 : Int32) u))))) ∧ ((s0 = (-1 : Int32)) → Q (0 : Int32) u)
set_option maxHeartbeats 4000000 in
set_option maxRecDepth 100000 in
theorem vb_X3_isCommand_45 {p : Program} {l : Launch} {e : Env} {s : State} {m : MethodId} {args : Array Value} {below : List Frame} {meth : Method} {c : Code} {g : GE} {W : MU × ((Nat → Int64) × (Nat → UInt64))} {k1 : Nat} {Q : Int32 → MU → Prop} (C : zCx p l s m args meth c g RX3 cX3_isCommand 7) (hr : meth.sig.returnType = (Option.some Jvm.ClassFile.FieldType.boolean)) (hk1 : zkd k1 = 11) (x2 : Int32) (s0 : Int32) (u : MU) (h : wb_X3_isCommand_45  k1 Q x2 s0 u) : WM p l e rm_X3_isCommand s m args below meth c g 7 0 0 (MQ below (zQi g (zPx W Q)) args s 0 0 (zA g)) 45 [(0, .ref (g.2.2.1 112)), (1, .ref (g.2.2.1 k1)), (2, .int x2)] [.int s0] (u, W) := by
  unfold wb_X3_isCommand_45 at h
  refine zm_istore (lv' := [(4, .int s0), (0, .ref (g.2.2.1 112)), (1, .ref (g.2.2.1 k1)), (2, .int x2)]) C dX3_isCommand_45 (by decide) rfl ?_
  refine zm_iload C dX3_isCommand_47 0 rfl ?_
  refine zm_iconst (v := -1) C dX3_isCommand_49 (by decide) ?_
  refine zm_icmp_ne (tgt := 55) C dX3_isCommand_50 (by decide) (fun hc_1 => ?_) (fun hc_1 => ?_)
  · have h := h.1 hc_1
    refine zm_iconst (v := 0) C dX3_isCommand_55 (by decide) ?_
    refine zm_istore (lv' := [(5, .int (0 : Int32)), (4, .int s0), (0, .ref (g.2.2.1 112)), (1, .ref (g.2.2.1 k1)), (2, .int x2)]) C dX3_isCommand_56 (by decide) rfl ?_
    refine zm_iload_n C dX3_isCommand_58 rfl 4 rfl ?_
    refine zm_ci (zr_S (As := [.int x2]) (rest := []) C (c_X3_markOf l g (u, W) x2 h) wd_759 wd_760 wd_9 wd_761 hy_X3_markOf rfl rfl ⟨by decide, by decide⟩ ⟨by decide, by decide⟩ rfl rfl (Nat.le_of_ble_eq_true rfl) dX3_isCommand_59) (fun r_2 M1 hq => ?_)
    obtain ⟨rfl, h⟩ := hq
    refine zm_istore (lv' := [(6, .int r_2), (5, .int (0 : Int32)), (4, .int s0), (0, .ref (g.2.2.1 112)), (1, .ref (g.2.2.1 k1)), (2, .int x2)]) C dX3_isCommand_62 (by decide) rfl ?_
    refine zm_iload C dX3_isCommand_64 0 rfl ?_
    refine zm_bipush (v := 32) C dX3_isCommand_66 (by decide) ?_
    refine zm_icmp_eq (tgt := 104) C dX3_isCommand_68 (by decide) (fun hc_4 => ?_) (fun hc_4 => ?_)
    · have h := h.1 hc_4
      exact zm_sub [3, 5, 2, 1] rfl (vb_X3_isCommand_104 C hr hk1  _ _ _ _ h)
    · have h := h.2 hc_4
      refine zm_aload_n C dX3_isCommand_71 rfl 4 rfl ?_
      refine zm_aload_n C dX3_isCommand_72 rfl 3 rfl ?_
      refine gf_RX3_21 C kd_112 dX3_isCommand_73 ?_
      refine zm_ci (zr_V (As := [.int (u 112 4)]) (rest := []) C (c_X8_sign l g u W k1 hk1 (u 112 4) h) wd_747 wd_748 wd_749 wd_8 wd_750 hy_X8_sign rfl rfl ⟨by decide, by decide⟩ ⟨by decide, by decide⟩ (ci := 8) (zkd_lt hk1 (by decide)) (zCell_k hk1) rfl rfl rfl rfl (Nat.le_of_ble_eq_true rfl) dX3_isCommand_76) (fun r_5 M1 hq => ?_)
      obtain ⟨rfl, h⟩ := hq
      refine zm_iload C dX3_isCommand_79 0 rfl ?_
      refine zm_icmp_eq (tgt := 86) C dX3_isCommand_81 (by decide) (fun hc_7 => ?_) (fun hc_7 => ?_)
      · have h := h.1 hc_7
        refine zm_aload_n C dX3_isCommand_86 rfl 3 rfl ?_
        refine zm_dup C dX3_isCommand_87 rfl ?_
        refine gf_RX3_21 C kd_112 dX3_isCommand_88 ?_
        refine zm_iconst (v := 1) C dX3_isCommand_91 (by decide) ?_
        refine zm_iadd C dX3_isCommand_92 ?_
        refine pf_RX3_21 C kd_112  dX3_isCommand_93 (fun u_8 hu_8 => ?_)
        have h := h u_8 hu_8
        refine zm_aload_n C dX3_isCommand_96 rfl 3 rfl ?_
        refine zm_aload_n C dX3_isCommand_97 rfl 4 rfl ?_
        refine zm_iconst (v := 1) C dX3_isCommand_98 (by decide) ?_
        refine zm_ci (zr_V (As := [.ref (g.2.2.1 k1), .int (1 : Int32)]) (rest := []) C (c_X3_numberIn l g u_8 W k1 hk1 (1 : Int32) h) wd_754 wd_756 wp_18 wd_9 wd_757 hy_X3_numberIn rfl rfl ⟨by decide, by decide⟩ ⟨by decide, by decide⟩ (ci := 3) (by decide) (zCell_k kd_112) rfl rfl rfl rfl (Nat.le_of_ble_eq_true rfl) dX3_isCommand_99) (fun r_9 M1 hq => ?_)
        obtain ⟨u_10, rfl, h⟩ := hq
        refine zm_istore (lv' := [(5, .int r_9), (6, .int r_2), (4, .int s0), (0, .ref (g.2.2.1 112)), (1, .ref (g.2.2.1 k1)), (2, .int x2)]) C dX3_isCommand_102 (by decide) rfl ?_
        exact zm_sub [3, 5, 2, 0] rfl (vb_X3_isCommand_104 C hr hk1  _ _ _ _ h)
      · have h := h.2 hc_7
        refine zm_iconst (v := 0) C dX3_isCommand_84 (by decide) ?_
        exact zm_zret (ty := .boolean) C hr (by decide) dX3_isCommand_85 ⟨_, rfl, h⟩
  · have h := h.2 hc_1
    refine zm_iconst (v := 0) C dX3_isCommand_53 (by decide) ?_
    exact zm_zret (ty := .boolean) C hr (by decide) dX3_isCommand_54 ⟨_, rfl, h⟩
def w_X3_isCommand (k1 : Nat) (u : MU) (Q : Int32 → MU → Prop) : Prop := w_X8_sign k1 u (u 112 4) (fun r_1 => w_X3_digitsOf r_1 (fun r_3 => ((¬ r_3 = (-1 : Int32)) → (∀ u_6, u_6 = u2 u 112 4 ((u 112 4) + (1 : Int32)) → ((¬ r_3 = 0) → w_X3_numberIn k1 r_3 u_6 (fun r_8 u_9 => wb_X3_isCommand_45  k1 Q r_1 r_8 u_9)) ∧ ((r_3 = 0) → wb_X3_isCommand_45  k1 Q r_1 (0 : Int32) u_6))) ∧ ((r_3 = (-1 : Int32)) → Q (0 : Int32) u)))
set_option maxHeartbeats 4000000 in
set_option maxRecDepth 100000 in
theorem c_X3_isCommand (l : Launch) (g : GE) (u : MU) (W : MU × ((Nat → Int64) × (Nat → UInt64))) (k1 : Nat) (hk1 : zkd k1 = 11) {Q : Int32 → MU → Prop} (h : w_X3_isCommand k1 u Q) : Met l yX3_isCommand (.code yX3_isCommand cX3_isCommand 7 (Option.some Jvm.ClassFile.FieldType.boolean) :: TB) rm_X3_isCommand (zPc g (u, W) [.ref (g.2.2.1 112), .ref (g.2.2.1 k1)]) (zQi g (zPx W Q)) 0 0 (zA g) := by
  unfold w_X3_isCommand at h
  refine zMet (own := RX3) [(0, .ref (g.2.2.1 112)), (1, .ref (g.2.2.1 k1))] (by decide +kernel) rfl (Nat.le_of_ble_eq_true rfl) rfl (fun p e s m args below meth c C hr => ?_)
  refine zm_aload_n C dX3_isCommand_0 rfl 1 rfl ?_
  refine zm_aload_n C dX3_isCommand_1 rfl 0 rfl ?_
  refine gf_RX3_21 C kd_112 dX3_isCommand_2 ?_
  refine zm_ci (zr_V (As := [.int (u 112 4)]) (rest := []) C (c_X8_sign l g u W k1 hk1 (u 112 4) h) wd_747 wd_748 wd_749 wd_8 wd_750 hy_X8_sign rfl rfl ⟨by decide, by decide⟩ ⟨by decide, by decide⟩ (ci := 8) (zkd_lt hk1 (by decide)) (zCell_k hk1) rfl rfl rfl rfl (Nat.le_of_ble_eq_true rfl) dX3_isCommand_5) (fun r_1 M1 hq => ?_)
  obtain ⟨rfl, h⟩ := hq
  refine zm_istore_n (lv' := [(2, .int r_1), (0, .ref (g.2.2.1 112)), (1, .ref (g.2.2.1 k1))]) C dX3_isCommand_8 rfl (by decide) rfl ?_
  refine zm_iload_n C dX3_isCommand_9 rfl 0 rfl ?_
  refine zm_ci (zr_S (As := [.int r_1]) (rest := []) C (c_X3_digitsOf l g (u, W) r_1 h) wd_751 wd_752 wd_9 wd_753 hy_X3_digitsOf rfl rfl ⟨by decide, by decide⟩ ⟨by decide, by decide⟩ rfl rfl (Nat.le_of_ble_eq_true rfl) dX3_isCommand_10) (fun r_3 M1 hq => ?_)
  obtain ⟨rfl, h⟩ := hq
  refine zm_istore_n (lv' := [(3, .int r_3), (2, .int r_1), (0, .ref (g.2.2.1 112)), (1, .ref (g.2.2.1 k1))]) C dX3_isCommand_13 rfl (by decide) rfl ?_
  refine zm_iload_n C dX3_isCommand_14 rfl 0 rfl ?_
  refine zm_iconst (v := -1) C dX3_isCommand_15 (by decide) ?_
  refine zm_icmp_ne (tgt := 21) C dX3_isCommand_16 (by decide) (fun hc_5 => ?_) (fun hc_5 => ?_)
  · have h := h.1 hc_5
    refine zm_aload_n C dX3_isCommand_21 rfl 2 rfl ?_
    refine zm_dup C dX3_isCommand_22 rfl ?_
    refine gf_RX3_21 C kd_112 dX3_isCommand_23 ?_
    refine zm_iconst (v := 1) C dX3_isCommand_26 (by decide) ?_
    refine zm_iadd C dX3_isCommand_27 ?_
    refine pf_RX3_21 C kd_112  dX3_isCommand_28 (fun u_6 hu_6 => ?_)
    have h := h u_6 hu_6
    refine zm_iload_n C dX3_isCommand_31 rfl 0 rfl ?_
    refine zm_if_ne (tgt := 39) C dX3_isCommand_32 (by decide) (fun hc_7 => ?_) (fun hc_7 => ?_)
    · have h := h.1 hc_7
      refine zm_aload_n C dX3_isCommand_39 rfl 2 rfl ?_
      refine zm_aload_n C dX3_isCommand_40 rfl 3 rfl ?_
      refine zm_iload_n C dX3_isCommand_41 rfl 0 rfl ?_
      refine zm_ci (zr_V (As := [.ref (g.2.2.1 k1), .int r_3]) (rest := []) C (c_X3_numberIn l g u_6 W k1 hk1 r_3 h) wd_754 wd_756 wp_18 wd_9 wd_757 hy_X3_numberIn rfl rfl ⟨by decide, by decide⟩ ⟨by decide, by decide⟩ (ci := 3) (by decide) (zCell_k kd_112) rfl rfl rfl rfl (Nat.le_of_ble_eq_true rfl) dX3_isCommand_42) (fun r_8 M1 hq => ?_)
      obtain ⟨u_9, rfl, h⟩ := hq
      exact zm_sub [2, 3, 1] rfl (vb_X3_isCommand_45 C hr hk1  _ _ _ h)
    · have h := h.2 hc_7
      refine zm_iconst (v := 0) C dX3_isCommand_35 (by decide) ?_
      refine zm_goto (tgt := 45) C dX3_isCommand_36 (by decide) ?_
      exact zm_sub [2, 3, 1] rfl (vb_X3_isCommand_45 C hr hk1  _ _ _ h)
  · have h := h.2 hc_5
    refine zm_iconst (v := 0) C dX3_isCommand_19 (by decide) ?_
    exact zm_zret (ty := .boolean) C hr (by decide) dX3_isCommand_20 ⟨_, rfl, h⟩
abbrev rm_X3_read : Room := { frames := 3, cells := 0, slots := 0, locals := 72 }
def wl_X3_read_12 (k1 : Nat) (Q : Int32 → MU → Prop) : Nat → Int32 → MU → Prop
  | 0, _, _ => False
  | n + 1, x2, u => (((30 : Int32) < x2) → Q (u 112 4) u) ∧ ((¬ (30 : Int32) < x2) → w_X3_isCommand k1 u (fun r_2 u_3 => ((¬ r_2 = 0) → (((u_3 112 4) < (u_3 k1 0)) → w_X8_sign k1 u_3 (u_3 112 4) (fun r_6 => ((r_6 = (59 : Int32)) → (∀ u_9, u_9 = u2 u_3 112 4 ((u_3 112 4) + (1 : Int32)) → ∀ x2_10, x2_10 = x2 + (1 : Int32) → wl_X3_read_12  k1 Q n x2_10 u_9)) ∧ ((¬ r_6 = (59 : Int32)) → Q (u_3 112 4) u_3))) ∧ ((¬ (u_3 112 4) < (u_3 k1 0)) → Q (-1 : Int32) u_3)) ∧ ((r_2 = 0) → Q (u_3 112 4) u_3)))
set_option maxHeartbeats 4000000 in
set_option maxRecDepth 100000 in
theorem vl_X3_read_12 {p : Program} {l : Launch} {e : Env} {s : State} {m : MethodId} {args : Array Value} {below : List Frame} {meth : Method} {c : Code} {g : GE} {W : MU × ((Nat → Int64) × (Nat → UInt64))} {k1 : Nat} {Q : Int32 → MU → Prop} (C : zCx p l s m args meth c g RX3 cX3_read 3) (hr : meth.sig.returnType = (Option.some Jvm.ClassFile.FieldType.int)) (hk1 : zkd k1 = 11) : ∀ (n : Nat) (x2 : Int32) (u : MU) , wl_X3_read_12  k1 Q n x2 u → WM p l e rm_X3_read s m args below meth c g 3 0 0 (MQ below (zQi g (zPx W Q)) args s 0 0 (zA g)) 12 [(0, .ref (g.2.2.1 112)), (1, .ref (g.2.2.1 k1)), (2, .int x2)] [] (u, W) := by
  intro n
  induction n with
  | zero => intro _ _ h; exact h.elim
  | succ n ih =>
    intro x2 u h
    unfold wl_X3_read_12 at h
    refine zm_iload_n C dX3_read_12 rfl 2 rfl ?_
    refine zm_bipush (v := 30) C dX3_read_13 (by decide) ?_
    refine zm_icmp_gt (tgt := 78) C dX3_read_15 (by decide) (fun hc_1 => ?_) (fun hc_1 => ?_)
    · have h := h.1 hc_1
      refine zm_aload_n C dX3_read_78 rfl 0 rfl ?_
      refine gf_RX3_21 C kd_112 dX3_read_79 ?_
      exact zm_iret C hr dX3_read_82 ⟨_, rfl, h⟩
    · have h := h.2 hc_1
      refine zm_aload_n C dX3_read_18 rfl 0 rfl ?_
      refine zm_aload_n C dX3_read_19 rfl 1 rfl ?_
      refine zm_ci (zr_V (As := [.ref (g.2.2.1 k1)]) (rest := []) C (c_X3_isCommand l g u W k1 hk1 h) wd_743 wd_745 wp_17 wd_9 wd_746 hy_X3_isCommand rfl rfl ⟨by decide, by decide⟩ ⟨by decide, by decide⟩ (ci := 3) (by decide) (zCell_k kd_112) rfl rfl rfl rfl (Nat.le_of_ble_eq_true rfl) dX3_read_20) (fun r_2 M1 hq => ?_)
      obtain ⟨u_3, rfl, h⟩ := hq
      refine zm_if_ne (tgt := 31) C dX3_read_23 (by decide) (fun hc_4 => ?_) (fun hc_4 => ?_)
      · have h := h.1 hc_4
        refine zm_aload_n C dX3_read_31 rfl 0 rfl ?_
        refine gf_RX3_21 C kd_112 dX3_read_32 ?_
        refine zm_aload_n C dX3_read_35 rfl 1 rfl ?_
        refine gf_RX3_32 C hk1 dX3_read_36 ?_
        refine zm_icmp_lt (tgt := 44) C dX3_read_39 (by decide) (fun hc_5 => ?_) (fun hc_5 => ?_)
        · have h := h.1 hc_5
          refine zm_aload_n C dX3_read_44 rfl 1 rfl ?_
          refine zm_aload_n C dX3_read_45 rfl 0 rfl ?_
          refine gf_RX3_21 C kd_112 dX3_read_46 ?_
          refine zm_ci (zr_V (As := [.int (u_3 112 4)]) (rest := []) C (c_X8_sign l g u_3 W k1 hk1 (u_3 112 4) h) wd_747 wd_748 wd_749 wd_8 wd_750 hy_X8_sign rfl rfl ⟨by decide, by decide⟩ ⟨by decide, by decide⟩ (ci := 8) (zkd_lt hk1 (by decide)) (zCell_k hk1) rfl rfl rfl rfl (Nat.le_of_ble_eq_true rfl) dX3_read_49) (fun r_6 M1 hq => ?_)
          obtain ⟨rfl, h⟩ := hq
          refine zm_bipush (v := 59) C dX3_read_52 (by decide) ?_
          refine zm_icmp_eq (tgt := 62) C dX3_read_54 (by decide) (fun hc_8 => ?_) (fun hc_8 => ?_)
          · have h := h.1 hc_8
            refine zm_aload_n C dX3_read_62 rfl 0 rfl ?_
            refine zm_dup C dX3_read_63 rfl ?_
            refine gf_RX3_21 C kd_112 dX3_read_64 ?_
            refine zm_iconst (v := 1) C dX3_read_67 (by decide) ?_
            refine zm_iadd C dX3_read_68 ?_
            refine pf_RX3_21 C kd_112  dX3_read_69 (fun u_9 hu_9 => ?_)
            have h := h u_9 hu_9
            obtain ⟨x2_10, hx2_10⟩ : ∃ z, z = x2 + (1 : Int32) := ⟨_, rfl⟩
            have h := h x2_10 hx2_10
            refine zm_iinc (v := x2_10) (lv' := [(2, .int x2_10), (0, .ref (g.2.2.1 112)), (1, .ref (g.2.2.1 k1))]) C dX3_read_72 2 rfl (by rw [hx2_10]; rfl) (by decide) rfl ?_
            refine zm_goto (tgt := 12) C dX3_read_75 (by decide) ?_
            exact zm_sub [1, 2, 0] rfl (ih _ _ h)
          · have h := h.2 hc_8
            refine zm_aload_n C dX3_read_57 rfl 0 rfl ?_
            refine gf_RX3_21 C kd_112 dX3_read_58 ?_
            exact zm_iret C hr dX3_read_61 ⟨_, rfl, h⟩
        · have h := h.2 hc_5
          refine zm_iconst (v := -1) C dX3_read_42 (by decide) ?_
          exact zm_iret C hr dX3_read_43 ⟨_, rfl, h⟩
      · have h := h.2 hc_4
        refine zm_aload_n C dX3_read_26 rfl 0 rfl ?_
        refine gf_RX3_21 C kd_112 dX3_read_27 ?_
        exact zm_iret C hr dX3_read_30 ⟨_, rfl, h⟩
def w_X3_read (k1 : Nat) (u : MU) (Q : Int32 → MU → Prop) : Prop := (∀ u_1, u_1 = u2 u 112 4 (0 : Int32) → (∀ u_2, u_2 = u2 u_1 112 0 (0 : Int32) → ∃ nn, wl_X3_read_12  k1 Q nn (0 : Int32) u_2))
set_option maxHeartbeats 4000000 in
set_option maxRecDepth 100000 in
theorem c_X3_read (l : Launch) (g : GE) (u : MU) (W : MU × ((Nat → Int64) × (Nat → UInt64))) (k1 : Nat) (hk1 : zkd k1 = 11) {Q : Int32 → MU → Prop} (h : w_X3_read k1 u Q) : Met l yX3_read (.code yX3_read cX3_read 3 (Option.some Jvm.ClassFile.FieldType.int) :: TB) rm_X3_read (zPc g (u, W) [.ref (g.2.2.1 112), .ref (g.2.2.1 k1)]) (zQi g (zPx W Q)) 0 0 (zA g) := by
  unfold w_X3_read at h
  refine zMet (own := RX3) [(0, .ref (g.2.2.1 112)), (1, .ref (g.2.2.1 k1))] (by decide +kernel) rfl (Nat.le_of_ble_eq_true rfl) rfl (fun p e s m args below meth c C hr => ?_)
  refine zm_aload_n C dX3_read_0 rfl 0 rfl ?_
  refine zm_iconst (v := 0) C dX3_read_1 (by decide) ?_
  refine pf_RX3_21 C kd_112  dX3_read_2 (fun u_1 hu_1 => ?_)
  have h := h u_1 hu_1
  refine zm_aload_n C dX3_read_5 rfl 0 rfl ?_
  refine zm_iconst (v := 0) C dX3_read_6 (by decide) ?_
  refine pf_RX3_25 C kd_112  dX3_read_7 (fun u_2 hu_2 => ?_)
  have h := h u_2 hu_2
  refine zm_iconst (v := 0) C dX3_read_10 (by decide) ?_
  refine zm_istore_n (lv' := [(2, .int (0 : Int32)), (0, .ref (g.2.2.1 112)), (1, .ref (g.2.2.1 k1))]) C dX3_read_11 rfl (by decide) rfl ?_
  obtain ⟨nn, h⟩ := h
  exact zm_sub [1, 2, 0] rfl (vl_X3_read_12 C hr hk1  nn _ _ h)
abbrev rm_J13_bitCount_95d88 : Room := { frames := 0, cells := 0, slots := 0, locals := 0 }
def w_J13_bitCount_95d88 (x0 : Int64) (Q : Int32 → Prop) : Prop := ∀ x0_1, x0_1 = (x0 - ((x0.toUInt64 >>> ((1 : Int32).toInt64.toUInt64 &&& Int64.toUInt64 63)).toInt64 &&& (6148914691236517205 : Int64))) → ∀ x0_2, x0_2 = ((x0_1 &&& (3689348814741910323 : Int64)) + ((x0_1.toUInt64 >>> ((2 : Int32).toInt64.toUInt64 &&& Int64.toUInt64 63)).toInt64 &&& (3689348814741910323 : Int64))) → ∀ x0_3, x0_3 = ((x0_2 + (x0_2.toUInt64 >>> ((4 : Int32).toInt64.toUInt64 &&& Int64.toUInt64 63)).toInt64) &&& (1085102592571150095 : Int64)) → ∀ x0_4, x0_4 = (x0_3 + (x0_3.toUInt64 >>> ((8 : Int32).toInt64.toUInt64 &&& Int64.toUInt64 63)).toInt64) → ∀ x0_5, x0_5 = (x0_4 + (x0_4.toUInt64 >>> ((16 : Int32).toInt64.toUInt64 &&& Int64.toUInt64 63)).toInt64) → ∀ x0_6, x0_6 = (x0_5 + (x0_5.toUInt64 >>> ((32 : Int32).toInt64.toUInt64 &&& Int64.toUInt64 63)).toInt64) → Q (x0_6.toInt32 &&& (127 : Int32))
set_option maxHeartbeats 4000000 in
set_option maxRecDepth 100000 in
theorem c_J13_bitCount_95d88 (l : Launch) (g : GE) (M : Mem) (x0 : Int64) {Q : Int32 → Prop} (h : w_J13_bitCount_95d88 x0 Q) : Met l yJ13_bitCount_95d88 (.code yJ13_bitCount_95d88 cJ13_bitCount_95d88 2 (Option.some Jvm.ClassFile.FieldType.int) :: TB) rm_J13_bitCount_95d88 (zPc g M [.long x0]) (zQi g (zP0 M Q)) 0 0 (zA g) := by
  unfold w_J13_bitCount_95d88 at h
  refine zMet (own := RJ13) [(0, .long x0)] (by decide +kernel) rfl (Nat.le_of_ble_eq_true rfl) rfl (fun p e s m args below meth c C hr => ?_)
  refine zm_lload_n C dJ13_bitCount_95d88_0 rfl 0 rfl ?_
  refine zm_lload_n C dJ13_bitCount_95d88_1 rfl 0 rfl ?_
  refine zm_iconst (v := 1) C dJ13_bitCount_95d88_2 (by decide) ?_
  refine zm_lushr C dJ13_bitCount_95d88_3 ?_
  refine zm_ldc2 (v := 6148914691236517205) C wd_639 dJ13_bitCount_95d88_4 ?_
  refine zm_land C dJ13_bitCount_95d88_7 ?_
  refine zm_lsub C dJ13_bitCount_95d88_8 ?_
  refine zm_nmL (fun x0_1 hx0_1 => ?_)
  have h := h x0_1 hx0_1
  refine zm_lstore_n (lv' := [(0, .long x0_1)]) C dJ13_bitCount_95d88_9 rfl (by decide) rfl ?_
  refine zm_lload_n C dJ13_bitCount_95d88_10 rfl 0 rfl ?_
  refine zm_ldc2 (v := 3689348814741910323) C wd_640 dJ13_bitCount_95d88_11 ?_
  refine zm_land C dJ13_bitCount_95d88_14 ?_
  refine zm_lload_n C dJ13_bitCount_95d88_15 rfl 0 rfl ?_
  refine zm_iconst (v := 2) C dJ13_bitCount_95d88_16 (by decide) ?_
  refine zm_lushr C dJ13_bitCount_95d88_17 ?_
  refine zm_ldc2 (v := 3689348814741910323) C wd_640 dJ13_bitCount_95d88_18 ?_
  refine zm_land C dJ13_bitCount_95d88_21 ?_
  refine zm_ladd C dJ13_bitCount_95d88_22 ?_
  refine zm_nmL (fun x0_2 hx0_2 => ?_)
  have h := h x0_2 hx0_2
  refine zm_lstore_n (lv' := [(0, .long x0_2)]) C dJ13_bitCount_95d88_23 rfl (by decide) rfl ?_
  refine zm_lload_n C dJ13_bitCount_95d88_24 rfl 0 rfl ?_
  refine zm_lload_n C dJ13_bitCount_95d88_25 rfl 0 rfl ?_
  refine zm_iconst (v := 4) C dJ13_bitCount_95d88_26 (by decide) ?_
  refine zm_lushr C dJ13_bitCount_95d88_27 ?_
  refine zm_ladd C dJ13_bitCount_95d88_28 ?_
  refine zm_ldc2 (v := 1085102592571150095) C wd_641 dJ13_bitCount_95d88_29 ?_
  refine zm_land C dJ13_bitCount_95d88_32 ?_
  refine zm_nmL (fun x0_3 hx0_3 => ?_)
  have h := h x0_3 hx0_3
  refine zm_lstore_n (lv' := [(0, .long x0_3)]) C dJ13_bitCount_95d88_33 rfl (by decide) rfl ?_
  refine zm_lload_n C dJ13_bitCount_95d88_34 rfl 0 rfl ?_
  refine zm_lload_n C dJ13_bitCount_95d88_35 rfl 0 rfl ?_
  refine zm_bipush (v := 8) C dJ13_bitCount_95d88_36 (by decide) ?_
  refine zm_lushr C dJ13_bitCount_95d88_38 ?_
  refine zm_ladd C dJ13_bitCount_95d88_39 ?_
  refine zm_nmL (fun x0_4 hx0_4 => ?_)
  have h := h x0_4 hx0_4
  refine zm_lstore_n (lv' := [(0, .long x0_4)]) C dJ13_bitCount_95d88_40 rfl (by decide) rfl ?_
  refine zm_lload_n C dJ13_bitCount_95d88_41 rfl 0 rfl ?_
  refine zm_lload_n C dJ13_bitCount_95d88_42 rfl 0 rfl ?_
  refine zm_bipush (v := 16) C dJ13_bitCount_95d88_43 (by decide) ?_
  refine zm_lushr C dJ13_bitCount_95d88_45 ?_
  refine zm_ladd C dJ13_bitCount_95d88_46 ?_
  refine zm_nmL (fun x0_5 hx0_5 => ?_)
  have h := h x0_5 hx0_5
  refine zm_lstore_n (lv' := [(0, .long x0_5)]) C dJ13_bitCount_95d88_47 rfl (by decide) rfl ?_
  refine zm_lload_n C dJ13_bitCount_95d88_48 rfl 0 rfl ?_
  refine zm_lload_n C dJ13_bitCount_95d88_49 rfl 0 rfl ?_
  refine zm_bipush (v := 32) C dJ13_bitCount_95d88_50 (by decide) ?_
  refine zm_lushr C dJ13_bitCount_95d88_52 ?_
  refine zm_ladd C dJ13_bitCount_95d88_53 ?_
  refine zm_nmL (fun x0_6 hx0_6 => ?_)
  have h := h x0_6 hx0_6
  refine zm_lstore_n (lv' := [(0, .long x0_6)]) C dJ13_bitCount_95d88_54 rfl (by decide) rfl ?_
  refine zm_lload_n C dJ13_bitCount_95d88_55 rfl 0 rfl ?_
  refine zm_l2i C dJ13_bitCount_95d88_56 ?_
  refine zm_bipush (v := 127) C dJ13_bitCount_95d88_57 (by decide) ?_
  refine zm_iand C dJ13_bitCount_95d88_59 ?_
  exact zm_iret C hr dJ13_bitCount_95d88_60 ⟨rfl, h⟩
abbrev rm_X9_firstMove : Room := { frames := 1, cells := 0, slots := 0, locals := 21 }
def w_X9_firstMove (x0 : Int64) (Q : Int32 → Prop) : Prop := w_J13_bitCount_95d88 ((x0 &&& (-x0)) - (1 : Int64)) (fun r_1 => Q r_1)
set_option maxHeartbeats 4000000 in
set_option maxRecDepth 100000 in
theorem c_X9_firstMove (l : Launch) (g : GE) (M : Mem) (x0 : Int64) {Q : Int32 → Prop} (h : w_X9_firstMove x0 Q) : Met l yX9_firstMove (.code yX9_firstMove cX9_firstMove 2 (Option.some Jvm.ClassFile.FieldType.int) :: TB) rm_X9_firstMove (zPc g M [.long x0]) (zQi g (zP0 M Q)) 0 0 (zA g) := by
  unfold w_X9_firstMove at h
  refine zMet (own := RX9) [(0, .long x0)] (by decide +kernel) rfl (Nat.le_of_ble_eq_true rfl) rfl (fun p e s m args below meth c C hr => ?_)
  refine zm_lload_n C dX9_firstMove_0 rfl 0 rfl ?_
  refine zm_lload_n C dX9_firstMove_1 rfl 0 rfl ?_
  refine zm_lneg C dX9_firstMove_2 ?_
  refine zm_land C dX9_firstMove_3 ?_
  refine zm_lconst (v := 1) C dX9_firstMove_4 (by decide) ?_
  refine zm_lsub C dX9_firstMove_5 ?_
  refine zm_ci (zr_Sx (As := [.long ((x0 &&& (-x0)) - (1 : Int64))]) (rest := []) C (c_J13_bitCount_95d88 l g M ((x0 &&& (-x0)) - (1 : Int64)) h) wd_658 wd_637 wd_21 wd_638 hz_J13_bitCount_95d88 rfl rfl ⟨by decide, by decide⟩ ⟨by decide, by decide⟩ rfl rfl (Nat.le_of_ble_eq_true rfl) dX9_firstMove_6) (fun r_1 M1 hq => ?_)
  obtain ⟨rfl, h⟩ := hq
  exact zm_iret C hr dX9_firstMove_9 ⟨rfl, h⟩
abbrev rm_X9_withoutFirst : Room := { frames := 0, cells := 0, slots := 0, locals := 0 }
def w_X9_withoutFirst (x0 : Int64) (Q : Int64 → Prop) : Prop := Q (x0 &&& (x0 - (1 : Int64)))
set_option maxHeartbeats 4000000 in
set_option maxRecDepth 100000 in
theorem c_X9_withoutFirst (l : Launch) (g : GE) (M : Mem) (x0 : Int64) {Q : Int64 → Prop} (h : w_X9_withoutFirst x0 Q) : Met l yX9_withoutFirst (.code yX9_withoutFirst cX9_withoutFirst 2 (Option.some Jvm.ClassFile.FieldType.long) :: TB) rm_X9_withoutFirst (zPc g M [.long x0]) (zQl g (zP0 M Q)) 0 0 (zA g) := by
  unfold w_X9_withoutFirst at h
  refine zMet (own := RX9) [(0, .long x0)] (by decide +kernel) rfl (Nat.le_of_ble_eq_true rfl) rfl (fun p e s m args below meth c C hr => ?_)
  refine zm_lload_n C dX9_withoutFirst_0 rfl 0 rfl ?_
  refine zm_lload_n C dX9_withoutFirst_1 rfl 0 rfl ?_
  refine zm_lconst (v := 1) C dX9_withoutFirst_2 (by decide) ?_
  refine zm_lsub C dX9_withoutFirst_3 ?_
  refine zm_land C dX9_withoutFirst_4 ?_
  exact zm_lret C hr dX9_withoutFirst_5 ⟨rfl, h⟩
abbrev rm_X9_fromOf : Room := { frames := 0, cells := 0, slots := 0, locals := 0 }
def w_X9_fromOf (x0 : Int32) (Q : Int32 → Prop) : Prop := Q (x0 / (8 : Int32))
set_option maxHeartbeats 4000000 in
set_option maxRecDepth 100000 in
theorem c_X9_fromOf (l : Launch) (g : GE) (M : Mem) (x0 : Int32) {Q : Int32 → Prop} (h : w_X9_fromOf x0 Q) : Met l yX9_fromOf (.code yX9_fromOf cX9_fromOf 1 (Option.some Jvm.ClassFile.FieldType.int) :: TB) rm_X9_fromOf (zPc g M [.int x0]) (zQi g (zP0 M Q)) 0 0 (zA g) := by
  unfold w_X9_fromOf at h
  refine zMet (own := RX9) [(0, .int x0)] (by decide +kernel) rfl (Nat.le_of_ble_eq_true rfl) rfl (fun p e s m args below meth c C hr => ?_)
  refine zm_iload_n C dX9_fromOf_0 rfl 0 rfl ?_
  refine zm_bipush (v := 8) C dX9_fromOf_1 (by decide) ?_
  refine zm_idiv C dX9_fromOf_3 (by decide) ?_
  exact zm_iret C hr dX9_fromOf_4 ⟨rfl, h⟩
abbrev rm_X9_toOf : Room := { frames := 0, cells := 0, slots := 0, locals := 0 }
def w_X9_toOf (x0 : Int32) (Q : Int32 → Prop) : Prop := Q (x0 - x0 / (8 : Int32) * (8 : Int32))
set_option maxHeartbeats 4000000 in
set_option maxRecDepth 100000 in
theorem c_X9_toOf (l : Launch) (g : GE) (M : Mem) (x0 : Int32) {Q : Int32 → Prop} (h : w_X9_toOf x0 Q) : Met l yX9_toOf (.code yX9_toOf cX9_toOf 1 (Option.some Jvm.ClassFile.FieldType.int) :: TB) rm_X9_toOf (zPc g M [.int x0]) (zQi g (zP0 M Q)) 0 0 (zA g) := by
  unfold w_X9_toOf at h
  refine zMet (own := RX9) [(0, .int x0)] (by decide +kernel) rfl (Nat.le_of_ble_eq_true rfl) rfl (fun p e s m args below meth c C hr => ?_)
  refine zm_iload_n C dX9_toOf_0 rfl 0 rfl ?_
  refine zm_bipush (v := 8) C dX9_toOf_1 (by decide) ?_
  refine zm_irem C dX9_toOf_3 (by decide) ?_
  exact zm_iret C hr dX9_toOf_4 ⟨rfl, h⟩
abbrev rm_X9_shifted : Room := { frames := 1, cells := 0, slots := 0, locals := 23 }
def wb_X9_shifted_54 (Q : Int32 → Prop) (x2 : Int32) (x3 : Int32) (x6 : Int32) (s0 : Int32) : Prop := ((¬ s0 = (-1 : Int32)) → w_X9_numberOf x3 (if s0 < x2 then s0 else x2) (if x2 < s0 then s0 else x2) x6 (fun r_2 => Q r_2)) ∧ ((s0 = (-1 : Int32)) → w_X9_numberOf x3 x2 (-1 : Int32) x6 (fun r_4 => Q r_4))
set_option maxHeartbeats 4000000 in
set_option maxRecDepth 100000 in
theorem vb_X9_shifted_54 {p : Program} {l : Launch} {e : Env} {s : State} {m : MethodId} {args : Array Value} {below : List Frame} {meth : Method} {c : Code} {g : GE} {M : Mem} {Q : Int32 → Prop} (C : zCx p l s m args meth c g RX9 cX9_shifted 8) (hr : meth.sig.returnType = (Option.some Jvm.ClassFile.FieldType.int)) (x2 : Int32) (x3 : Int32) (x6 : Int32) (s0 : Int32) (h : wb_X9_shifted_54   Q x2 x3 x6 s0) : WM p l e rm_X9_shifted s m args below meth c g 8 0 0 (MQ below (zQi g (zP0 M Q)) args s 0 0 (zA g)) 54 [(2, .int x2), (3, .int x3), (6, .int x6)] [.int s0] M := by
  unfold wb_X9_shifted_54 at h
  refine zm_istore (lv' := [(7, .int s0), (2, .int x2), (3, .int x3), (6, .int x6)]) C dX9_shifted_54 (by decide) rfl ?_
  refine zm_iload C dX9_shifted_56 0 rfl ?_
  refine zm_iconst (v := -1) C dX9_shifted_58 (by decide) ?_
  refine zm_icmp_ne (tgt := 71) C dX9_shifted_59 (by decide) (fun hc_1 => ?_) (fun hc_1 => ?_)
  · have h := h.1 hc_1
    refine zm_iload_n C dX9_shifted_71 rfl 2 rfl ?_
    refine zm_iload_n C dX9_shifted_72 rfl 1 rfl ?_
    refine zm_iload C dX9_shifted_73 0 rfl ?_
    refine zm_mmin C wd_321 wd_322 wd_15 wd_323 (Nat.le_of_ble_eq_true rfl) (Nat.le_of_ble_eq_true rfl) (Nat.le_of_ble_eq_true rfl) (Nat.le_of_ble_eq_true rfl) dX9_shifted_75 ?_
    refine zm_iload_n C dX9_shifted_78 rfl 1 rfl ?_
    refine zm_iload C dX9_shifted_79 0 rfl ?_
    refine zm_mmax C wd_676 wd_677 wd_15 wd_678 (Nat.le_of_ble_eq_true rfl) (Nat.le_of_ble_eq_true rfl) (Nat.le_of_ble_eq_true rfl) (Nat.le_of_ble_eq_true rfl) dX9_shifted_81 ?_
    refine zm_iload C dX9_shifted_84 3 rfl ?_
    refine zm_ci (zr_S (As := [.int x3, .int (if s0 < x2 then s0 else x2), .int (if x2 < s0 then s0 else x2), .int x6]) (rest := []) C (c_X9_numberOf l g M x3 (if s0 < x2 then s0 else x2) (if x2 < s0 then s0 else x2) x6 h) wd_675 wd_608 wd_1 wd_609 hy_X9_numberOf rfl rfl ⟨by decide, by decide⟩ ⟨by decide, by decide⟩ rfl rfl (Nat.le_of_ble_eq_true rfl) dX9_shifted_86) (fun r_2 M1 hq => ?_)
    obtain ⟨rfl, h⟩ := hq
    exact zm_iret C hr dX9_shifted_89 ⟨rfl, h⟩
  · have h := h.2 hc_1
    refine zm_iload_n C dX9_shifted_62 rfl 2 rfl ?_
    refine zm_iload_n C dX9_shifted_63 rfl 1 rfl ?_
    refine zm_iconst (v := -1) C dX9_shifted_64 (by decide) ?_
    refine zm_iload C dX9_shifted_65 3 rfl ?_
    refine zm_ci (zr_S (As := [.int x3, .int x2, .int (-1 : Int32), .int x6]) (rest := []) C (c_X9_numberOf l g M x3 x2 (-1 : Int32) x6 h) wd_675 wd_608 wd_1 wd_609 hy_X9_numberOf rfl rfl ⟨by decide, by decide⟩ ⟨by decide, by decide⟩ rfl rfl (Nat.le_of_ble_eq_true rfl) dX9_shifted_67) (fun r_4 M1 hq => ?_)
    obtain ⟨rfl, h⟩ := hq
    exact zm_iret C hr dX9_shifted_70 ⟨rfl, h⟩
def w_X9_shifted (x0 : Int32) (x1 : Int32) (x2 : Int32) (Q : Int32 → Prop) : Prop := w_X9_foxOf x0 (fun r_1 => w_X9_firstOf x0 (fun r_3 => w_X9_secondOf x0 (fun r_5 => w_X9_turnOf x0 (fun r_7 => ∀ x6_9, x6_9 = ((1 : Int32) - r_7) → ((¬ x1 = r_1) → ((¬ x1 = r_3) → wb_X9_shifted_54   Q x2 r_1 x6_9 r_3) ∧ ((x1 = r_3) → wb_X9_shifted_54   Q x2 r_1 x6_9 r_5)) ∧ ((x1 = r_1) → w_X9_numberOf x2 r_3 r_5 x6_9 (fun r_12 => Q r_12))))))
set_option maxHeartbeats 4000000 in
set_option maxRecDepth 100000 in
theorem c_X9_shifted (l : Launch) (g : GE) (M : Mem) (x0 : Int32) (x1 : Int32) (x2 : Int32) {Q : Int32 → Prop} (h : w_X9_shifted x0 x1 x2 Q) : Met l yX9_shifted (.code yX9_shifted cX9_shifted 8 (Option.some Jvm.ClassFile.FieldType.int) :: TB) rm_X9_shifted (zPc g M [.int x0, .int x1, .int x2]) (zQi g (zP0 M Q)) 0 0 (zA g) := by
  unfold w_X9_shifted at h
  refine zMet (own := RX9) [(0, .int x0), (1, .int x1), (2, .int x2)] (by decide +kernel) rfl (Nat.le_of_ble_eq_true rfl) rfl (fun p e s m args below meth c C hr => ?_)
  refine zm_iload_n C dX9_shifted_0 rfl 0 rfl ?_
  refine zm_ci (zr_S (As := [.int x0]) (rest := []) C (c_X9_foxOf l g M x0 h) wd_671 wd_626 wd_1 wd_627 hy_X9_foxOf rfl rfl ⟨by decide, by decide⟩ ⟨by decide, by decide⟩ rfl rfl (Nat.le_of_ble_eq_true rfl) dX9_shifted_1) (fun r_1 M1 hq => ?_)
  obtain ⟨rfl, h⟩ := hq
  refine zm_istore_n (lv' := [(3, .int r_1), (0, .int x0), (1, .int x1), (2, .int x2)]) C dX9_shifted_4 rfl (by decide) rfl ?_
  refine zm_iload_n C dX9_shifted_5 rfl 1 rfl ?_
  refine zm_ci (zr_S (As := [.int x0]) (rest := []) C (c_X9_firstOf l g M x0 h) wd_672 wd_616 wd_1 wd_617 hy_X9_firstOf rfl rfl ⟨by decide, by decide⟩ ⟨by decide, by decide⟩ rfl rfl (Nat.le_of_ble_eq_true rfl) dX9_shifted_6) (fun r_3 M1 hq => ?_)
  obtain ⟨rfl, h⟩ := hq
  refine zm_istore (lv' := [(4, .int r_3), (3, .int r_1), (0, .int x0), (1, .int x1), (2, .int x2)]) C dX9_shifted_9 (by decide) rfl ?_
  refine zm_iload_n C dX9_shifted_11 rfl 2 rfl ?_
  refine zm_ci (zr_S (As := [.int x0]) (rest := []) C (c_X9_secondOf l g M x0 h) wd_673 wd_619 wd_1 wd_620 hy_X9_secondOf rfl rfl ⟨by decide, by decide⟩ ⟨by decide, by decide⟩ rfl rfl (Nat.le_of_ble_eq_true rfl) dX9_shifted_12) (fun r_5 M1 hq => ?_)
  obtain ⟨rfl, h⟩ := hq
  refine zm_istore (lv' := [(5, .int r_5), (4, .int r_3), (3, .int r_1), (0, .int x0), (1, .int x1), (2, .int x2)]) C dX9_shifted_15 (by decide) rfl ?_
  refine zm_iconst (v := 1) C dX9_shifted_17 (by decide) ?_
  refine zm_iload_n C dX9_shifted_18 rfl 3 rfl ?_
  refine zm_ci (zr_S (As := [.int x0]) (rest := [.int (1 : Int32)]) C (c_X9_turnOf l g M x0 h) wd_674 wd_629 wd_1 wd_630 hy_X9_turnOf rfl rfl ⟨by decide, by decide⟩ ⟨by decide, by decide⟩ rfl rfl (Nat.le_of_ble_eq_true rfl) dX9_shifted_19) (fun r_7 M1 hq => ?_)
  obtain ⟨rfl, h⟩ := hq
  refine zm_isub C dX9_shifted_22 ?_
  refine zm_nmI (fun x6_9 hx6_9 => ?_)
  have h := h x6_9 hx6_9
  refine zm_istore (lv' := [(6, .int x6_9), (5, .int r_5), (4, .int r_3), (3, .int r_1), (0, .int x0), (1, .int x1), (2, .int x2)]) C dX9_shifted_23 (by decide) rfl ?_
  refine zm_iload_n C dX9_shifted_25 rfl 5 rfl ?_
  refine zm_iload_n C dX9_shifted_26 rfl 3 rfl ?_
  refine zm_icmp_ne (tgt := 41) C dX9_shifted_27 (by decide) (fun hc_10 => ?_) (fun hc_10 => ?_)
  · have h := h.1 hc_10
    refine zm_iload_n C dX9_shifted_41 rfl 5 rfl ?_
    refine zm_iload C dX9_shifted_42 2 rfl ?_
    refine zm_icmp_ne (tgt := 52) C dX9_shifted_44 (by decide) (fun hc_11 => ?_) (fun hc_11 => ?_)
    · have h := h.1 hc_11
      refine zm_iload C dX9_shifted_52 2 rfl ?_
      exact zm_sub [6, 3, 0] rfl (vb_X9_shifted_54 C hr  _ _ _ _ h)
    · have h := h.2 hc_11
      refine zm_iload C dX9_shifted_47 1 rfl ?_
      refine zm_goto (tgt := 54) C dX9_shifted_49 (by decide) ?_
      exact zm_sub [6, 3, 0] rfl (vb_X9_shifted_54 C hr  _ _ _ _ h)
  · have h := h.2 hc_10
    refine zm_iload_n C dX9_shifted_30 rfl 6 rfl ?_
    refine zm_iload C dX9_shifted_31 2 rfl ?_
    refine zm_iload C dX9_shifted_33 1 rfl ?_
    refine zm_iload C dX9_shifted_35 0 rfl ?_
    refine zm_ci (zr_S (As := [.int x2, .int r_3, .int r_5, .int x6_9]) (rest := []) C (c_X9_numberOf l g M x2 r_3 r_5 x6_9 h) wd_675 wd_608 wd_1 wd_609 hy_X9_numberOf rfl rfl ⟨by decide, by decide⟩ ⟨by decide, by decide⟩ rfl rfl (Nat.le_of_ble_eq_true rfl) dX9_shifted_37) (fun r_12 M1 hq => ?_)
    obtain ⟨rfl, h⟩ := hq
    exact zm_iret C hr dX9_shifted_40 ⟨rfl, h⟩
abbrev rm_X5_seen : Room := { frames := 3, cells := 0, slots := 0, locals := 65 }
def wb_X5_seen_76 (L18 : Int32 → Int64 → Int32 → Int32 → Int32 → Prop) (k1 : Nat) (u : MU) (Q : Int32 → Prop) (x2 : Int32) (x3 : Int64) (x5 : Int32) (x6 : Int32) (x7 : Int32) : Prop := ∀ x7_1, x7_1 = x7 + (1 : Int32) → L18 x2 x3 x5 x6 x7_1
set_option maxHeartbeats 4000000 in
set_option maxRecDepth 100000 in
theorem vb_X5_seen_76 {p : Program} {l : Launch} {e : Env} {s : State} {m : MethodId} {args : Array Value} {below : List Frame} {meth : Method} {c : Code} {g : GE} {W : MU × ((Nat → Int64) × (Nat → UInt64))} {u : MU} {k1 : Nat} {Q : Int32 → Prop} (C : zCx p l s m args meth c g RX5 cX5_seen 10) (hr : meth.sig.returnType = (Option.some Jvm.ClassFile.FieldType.int)) (hk1 : zkd k1 = 3) {L18 : Int32 → Int64 → Int32 → Int32 → Int32 → Prop} (hL18 : ∀ (x2 : Int32) (x3 : Int64) (x5 : Int32) (x6 : Int32) (x7 : Int32) , L18 x2 x3 x5 x6 x7  → WM p l e rm_X5_seen s m args below meth c g 10 0 0 (MQ below (zQi g (zP0 (u, W) Q)) args s 0 0 (zA g)) 18 [(0, .ref (g.2.2.1 105)), (2, .int x2), (3, .long x3), (5, .int x5), (6, .int x6), (7, .int x7)] [] (u, W)) (x2 : Int32) (x3 : Int64) (x5 : Int32) (x6 : Int32) (x7 : Int32) (h : wb_X5_seen_76 L18 k1 u Q x2 x3 x5 x6 x7) : WM p l e rm_X5_seen s m args below meth c g 10 0 0 (MQ below (zQi g (zP0 (u, W) Q)) args s 0 0 (zA g)) 76 [(0, .ref (g.2.2.1 105)), (2, .int x2), (3, .long x3), (5, .int x5), (6, .int x6), (7, .int x7)] [] (u, W) := by
  unfold wb_X5_seen_76 at h
  obtain ⟨x7_1, hx7_1⟩ : ∃ z, z = x7 + (1 : Int32) := ⟨_, rfl⟩
  have h := h x7_1 hx7_1
  refine zm_iinc (v := x7_1) (lv' := [(7, .int x7_1), (0, .ref (g.2.2.1 105)), (2, .int x2), (3, .long x3), (5, .int x5), (6, .int x6)]) C dX5_seen_76 5 rfl (by rw [hx7_1]; rfl) (by decide) rfl ?_
  refine zm_goto (tgt := 18) C dX5_seen_79 (by decide) ?_
  exact zm_sub [1, 2, 3, 4, 5, 0] rfl (hL18 _ _ _ _ _ h)
def wl_X5_seen_18 (k1 : Nat) (u : MU) (Q : Int32 → Prop) : Nat → Int32 → Int64 → Int32 → Int32 → Int32 → Prop
  | 0, _, _, _, _, _ => False
  | n + 1, x2, x3, x5, x6, x7 => ((x5 ≤ x7) → ((¬ x6 = x5) → Q (0 : Int32)) ∧ ((x6 = x5) → Q (2 : Int32))) ∧ ((¬ x5 ≤ x7) → w_X9_firstMove x3 (fun r_3 => w_X9_withoutFirst x3 (fun r_5 => w_X9_fromOf r_3 (fun r_7 => w_X9_toOf r_3 (fun r_9 => w_X9_shifted x2 r_7 r_9 (fun r_11 => w_X9_at 107 u r_11 (fun r_13 => ((¬ r_13 = (2 : Int32)) → ((¬ r_13 = (1 : Int32)) → wb_X5_seen_76 (fun x2' x3' x5' x6' x7' => wl_X5_seen_18 k1 u Q n x2' x3' x5' x6' x7') k1 u Q x2 r_5 x5 x6 x7) ∧ ((r_13 = (1 : Int32)) → ∀ x6_17, x6_17 = x6 + (1 : Int32) → wb_X5_seen_76 (fun x2' x3' x5' x6' x7' => wl_X5_seen_18 k1 u Q n x2' x3' x5' x6' x7') k1 u Q x2 r_5 x5 x6_17 x7)) ∧ ((r_13 = (2 : Int32)) → Q (1 : Int32)))))))))
set_option maxHeartbeats 4000000 in
set_option maxRecDepth 100000 in
theorem vl_X5_seen_18 {p : Program} {l : Launch} {e : Env} {s : State} {m : MethodId} {args : Array Value} {below : List Frame} {meth : Method} {c : Code} {g : GE} {W : MU × ((Nat → Int64) × (Nat → UInt64))} {u : MU} {k1 : Nat} {Q : Int32 → Prop} (C : zCx p l s m args meth c g RX5 cX5_seen 10) (hr : meth.sig.returnType = (Option.some Jvm.ClassFile.FieldType.int)) (hk1 : zkd k1 = 3) : ∀ (n : Nat) (x2 : Int32) (x3 : Int64) (x5 : Int32) (x6 : Int32) (x7 : Int32) , wl_X5_seen_18  k1 u Q n x2 x3 x5 x6 x7 → WM p l e rm_X5_seen s m args below meth c g 10 0 0 (MQ below (zQi g (zP0 (u, W) Q)) args s 0 0 (zA g)) 18 [(0, .ref (g.2.2.1 105)), (2, .int x2), (3, .long x3), (5, .int x5), (6, .int x6), (7, .int x7)] [] (u, W) := by
  intro n
  induction n with
  | zero => intro _ _ _ _ _ h; exact h.elim
  | succ n ih =>
    intro x2 x3 x5 x6 x7 h
    unfold wl_X5_seen_18 at h
    refine zm_iload C dX5_seen_18 5 rfl ?_
    refine zm_iload C dX5_seen_20 3 rfl ?_
    refine zm_icmp_ge (tgt := 82) C dX5_seen_22 (by decide) (fun hc_1 => ?_) (fun hc_1 => ?_)
    · have h := h.1 hc_1
      refine zm_iload C dX5_seen_82 4 rfl ?_
      refine zm_iload C dX5_seen_84 3 rfl ?_
      refine zm_icmp_ne (tgt := 93) C dX5_seen_86 (by decide) (fun hc_2 => ?_) (fun hc_2 => ?_)
      · have h := h.1 hc_2
        refine zm_iconst (v := 0) C dX5_seen_93 (by decide) ?_
        exact zm_iret C hr dX5_seen_94 ⟨rfl, h⟩
      · have h := h.2 hc_2
        refine zm_iconst (v := 2) C dX5_seen_89 (by decide) ?_
        refine zm_goto (tgt := 94) C dX5_seen_90 (by decide) ?_
        exact zm_iret C hr dX5_seen_94 ⟨rfl, h⟩
    · have h := h.2 hc_1
      refine zm_lload_n C dX5_seen_25 rfl 2 rfl ?_
      refine zm_ci (zr_SN (As := [.long x3]) (rest := []) C (c_X9_firstMove l g (u, W) x3 h) wd_1004 wd_656 wd_1 wd_657 hz_X9_firstMove rfl rfl ⟨by decide, by decide⟩ ⟨by decide, by decide⟩ rfl rfl (Nat.le_of_ble_eq_true rfl) dX5_seen_26) (fun r_3 M1 hq => ?_)
      obtain ⟨rfl, h⟩ := hq
      refine zm_istore (lv' := [(8, .int r_3), (0, .ref (g.2.2.1 105)), (2, .int x2), (3, .long x3), (5, .int x5), (6, .int x6), (7, .int x7)]) C dX5_seen_29 (by decide) rfl ?_
      refine zm_lload_n C dX5_seen_31 rfl 3 rfl ?_
      refine zm_cl (zr_SN (As := [.long x3]) (rest := []) C (c_X9_withoutFirst l g (u, W) x3 h) wd_1005 wd_660 wd_1 wd_661 hz_X9_withoutFirst rfl rfl ⟨by decide, by decide⟩ ⟨by decide, by decide⟩ rfl rfl (Nat.le_of_ble_eq_true rfl) dX5_seen_32) (fun r_5 M1 hq => ?_)
      obtain ⟨rfl, h⟩ := hq
      refine zm_lstore_n (lv' := [(3, .long r_5), (8, .int r_3), (0, .ref (g.2.2.1 105)), (2, .int x2), (5, .int x5), (6, .int x6), (7, .int x7)]) C dX5_seen_35 rfl (by decide) rfl ?_
      refine zm_aload_n C dX5_seen_36 rfl 2 rfl ?_
      refine gf_RX5_19 (k1 := 107) C kd_105 rfl dX5_seen_37 ?_
      refine zm_iload_n C dX5_seen_40 rfl 3 rfl ?_
      refine zm_iload C dX5_seen_41 1 rfl ?_
      refine zm_ci (zr_SN (As := [.int r_3]) (rest := [.int x2, .ref (g.2.2.1 107)]) C (c_X9_fromOf l g (u, W) r_3 h) wd_1006 wd_663 wd_1 wd_664 hz_X9_fromOf rfl rfl ⟨by decide, by decide⟩ ⟨by decide, by decide⟩ rfl rfl (Nat.le_of_ble_eq_true rfl) dX5_seen_43) (fun r_7 M1 hq => ?_)
      obtain ⟨rfl, h⟩ := hq
      refine zm_iload C dX5_seen_46 1 rfl ?_
      refine zm_ci (zr_SN (As := [.int r_3]) (rest := [.int r_7, .int x2, .ref (g.2.2.1 107)]) C (c_X9_toOf l g (u, W) r_3 h) wd_1007 wd_666 wd_1 wd_667 hz_X9_toOf rfl rfl ⟨by decide, by decide⟩ ⟨by decide, by decide⟩ rfl rfl (Nat.le_of_ble_eq_true rfl) dX5_seen_48) (fun r_9 M1 hq => ?_)
      obtain ⟨rfl, h⟩ := hq
      refine zm_ci (zr_SN (As := [.int x2, .int r_7, .int r_9]) (rest := [.ref (g.2.2.1 107)]) C (c_X9_shifted l g (u, W) x2 r_7 r_9 h) wd_1008 wd_669 wd_1 wd_670 hz_X9_shifted rfl rfl ⟨by decide, by decide⟩ ⟨by decide, by decide⟩ rfl rfl (Nat.le_of_ble_eq_true rfl) dX5_seen_51) (fun r_11 M1 hq => ?_)
      obtain ⟨rfl, h⟩ := hq
      refine zm_ci (zr_SN (As := [.ref (g.2.2.1 107), .int r_11]) (rest := []) C (c_X9_at l g u W 107 kd_107 r_11 h) wd_996 wd_473 wd_1 wd_474 hz_X9_at rfl rfl ⟨by decide, by decide⟩ ⟨by decide, by decide⟩ rfl rfl (Nat.le_of_ble_eq_true rfl) dX5_seen_54) (fun r_13 M1 hq => ?_)
      obtain ⟨rfl, h⟩ := hq
      refine zm_istore (lv' := [(9, .int r_13), (3, .long r_5), (8, .int r_3), (0, .ref (g.2.2.1 105)), (2, .int x2), (5, .int x5), (6, .int x6), (7, .int x7)]) C dX5_seen_57 (by decide) rfl ?_
      refine zm_iload C dX5_seen_59 0 rfl ?_
      refine zm_iconst (v := 2) C dX5_seen_61 (by decide) ?_
      refine zm_icmp_ne (tgt := 67) C dX5_seen_62 (by decide) (fun hc_15 => ?_) (fun hc_15 => ?_)
      · have h := h.1 hc_15
        refine zm_iload C dX5_seen_67 0 rfl ?_
        refine zm_iconst (v := 1) C dX5_seen_69 (by decide) ?_
        refine zm_icmp_ne (tgt := 76) C dX5_seen_70 (by decide) (fun hc_16 => ?_) (fun hc_16 => ?_)
        · have h := h.1 hc_16
          exact zm_sub [3, 4, 1, 5, 6, 7] rfl (vb_X5_seen_76 C hr hk1 ih _ _ _ _ _ h)
        · have h := h.2 hc_16
          obtain ⟨x6_17, hx6_17⟩ : ∃ z, z = x6 + (1 : Int32) := ⟨_, rfl⟩
          have h := h x6_17 hx6_17
          refine zm_iinc (v := x6_17) (lv' := [(6, .int x6_17), (9, .int r_13), (3, .long r_5), (8, .int r_3), (0, .ref (g.2.2.1 105)), (2, .int x2), (5, .int x5), (7, .int x7)]) C dX5_seen_73 6 rfl (by rw [hx6_17]; rfl) (by decide) rfl ?_
          exact zm_sub [4, 5, 2, 6, 0, 7] rfl (vb_X5_seen_76 C hr hk1 ih _ _ _ _ _ h)
      · have h := h.2 hc_15
        refine zm_iconst (v := 1) C dX5_seen_65 (by decide) ?_
        exact zm_iret C hr dX5_seen_66 ⟨rfl, h⟩
def w_X5_seen (k1 : Nat) (u : MU) (x2 : Int32) (Q : Int32 → Prop) : Prop := w_X1_movesOf k1 u x2 (fun r_1 => w_J13_bitCount_95d88 r_1 (fun r_3 => ∃ nn, wl_X5_seen_18  k1 u Q nn x2 r_1 r_3 (0 : Int32) (0 : Int32)))
set_option maxHeartbeats 4000000 in
set_option maxRecDepth 100000 in
theorem c_X5_seen (l : Launch) (g : GE) (u : MU) (W : MU × ((Nat → Int64) × (Nat → UInt64))) (k1 : Nat) (hk1 : zkd k1 = 3) (x2 : Int32) {Q : Int32 → Prop} (h : w_X5_seen k1 u x2 Q) : Met l yX5_seen (.code yX5_seen cX5_seen 10 (Option.some Jvm.ClassFile.FieldType.int) :: TB) rm_X5_seen (zPc g (u, W) [.ref (g.2.2.1 105), .ref (g.2.2.1 k1), .int x2]) (zQi g (zP0 (u, W) Q)) 0 0 (zA g) := by
  unfold w_X5_seen at h
  refine zMet (own := RX5) [(0, .ref (g.2.2.1 105)), (1, .ref (g.2.2.1 k1)), (2, .int x2)] (by decide +kernel) rfl (Nat.le_of_ble_eq_true rfl) rfl (fun p e s m args below meth c C hr => ?_)
  refine zm_aload_n C dX5_seen_0 rfl 1 rfl ?_
  refine zm_iload_n C dX5_seen_1 rfl 2 rfl ?_
  refine zm_cl (zr_V (As := [.int x2]) (rest := []) C (c_X1_movesOf l g u W k1 hk1 x2 h) wd_1002 wd_612 wd_613 wd_3 wd_614 hy_X1_movesOf rfl rfl ⟨by decide, by decide⟩ ⟨by decide, by decide⟩ (ci := 1) (zkd_lt hk1 (by decide)) (zCell_k hk1) rfl rfl rfl rfl (Nat.le_of_ble_eq_true rfl) dX5_seen_2) (fun r_1 M1 hq => ?_)
  obtain ⟨rfl, h⟩ := hq
  refine zm_lstore_n (lv' := [(3, .long r_1), (0, .ref (g.2.2.1 105)), (1, .ref (g.2.2.1 k1)), (2, .int x2)]) C dX5_seen_5 rfl (by decide) rfl ?_
  refine zm_lload_n C dX5_seen_6 rfl 0 rfl ?_
  refine zm_ci (zr_Sx (As := [.long r_1]) (rest := []) C (c_J13_bitCount_95d88 l g (u, W) r_1 h) wd_1003 wd_637 wd_21 wd_638 hz_J13_bitCount_95d88 rfl rfl ⟨by decide, by decide⟩ ⟨by decide, by decide⟩ rfl rfl (Nat.le_of_ble_eq_true rfl) dX5_seen_7) (fun r_3 M1 hq => ?_)
  obtain ⟨rfl, h⟩ := hq
  refine zm_istore (lv' := [(5, .int r_3), (3, .long r_1), (0, .ref (g.2.2.1 105)), (1, .ref (g.2.2.1 k1)), (2, .int x2)]) C dX5_seen_10 (by decide) rfl ?_
  refine zm_iconst (v := 0) C dX5_seen_12 (by decide) ?_
  refine zm_istore (lv' := [(6, .int (0 : Int32)), (5, .int r_3), (3, .long r_1), (0, .ref (g.2.2.1 105)), (1, .ref (g.2.2.1 k1)), (2, .int x2)]) C dX5_seen_13 (by decide) rfl ?_
  refine zm_iconst (v := 0) C dX5_seen_15 (by decide) ?_
  refine zm_istore (lv' := [(7, .int (0 : Int32)), (6, .int (0 : Int32)), (5, .int r_3), (3, .long r_1), (0, .ref (g.2.2.1 105)), (1, .ref (g.2.2.1 k1)), (2, .int x2)]) C dX5_seen_16 (by decide) rfl ?_
  obtain ⟨nn, h⟩ := h
  exact zm_sub [4, 6, 3, 2, 1, 0] rfl (vl_X5_seen_18 C hr hk1  nn _ _ _ _ _ h)
abbrev rm_X5_solve : Room := { frames := 4, cells := 0, slots := 0, locals := 94 }
def wb_X5_solve_139 (L63 : Int32 → Int32 → Int32 → MU → Prop) (L78 : Int32 → Int32 → Int32 → Int32 → MU → Prop) (k1 : Nat) (Q : MU → Prop) (x2 : Int32) (x3 : Int32) (x4 : Int32) (x5 : Int32) (u : MU) : Prop := ∀ x5_1, x5_1 = x5 + (1 : Int32) → L78 x2 x3 x4 x5_1 u
set_option maxHeartbeats 4000000 in
set_option maxRecDepth 100000 in
theorem vb_X5_solve_139 {p : Program} {l : Launch} {e : Env} {s : State} {m : MethodId} {args : Array Value} {below : List Frame} {meth : Method} {c : Code} {g : GE} {W : MU × ((Nat → Int64) × (Nat → UInt64))} {k1 : Nat} {Q : MU → Prop} (C : zCx p l s m args meth c g RX5 cX5_solve 8) (hr : meth.sig.returnType = (Option.none : Option Jvm.ClassFile.FieldType)) (hk1 : zkd k1 = 3) {L63 : Int32 → Int32 → Int32 → MU → Prop} {L78 : Int32 → Int32 → Int32 → Int32 → MU → Prop} (hL63 : ∀ (x2 : Int32) (x3 : Int32) (x4 : Int32) (u : MU), L63 x2 x3 x4 u → WM p l e rm_X5_solve s m args below meth c g 8 0 0 (MQ below (zQv g (zPxv W Q)) args s 0 0 (zA g)) 63 [(0, .ref (g.2.2.1 105)), (1, .ref (g.2.2.1 k1)), (2, .int x2), (3, .int x3), (4, .int x4)] [] (u, W)) (hL78 : ∀ (x2 : Int32) (x3 : Int32) (x4 : Int32) (x5 : Int32) (u : MU), L78 x2 x3 x4 x5 u → WM p l e rm_X5_solve s m args below meth c g 8 0 0 (MQ below (zQv g (zPxv W Q)) args s 0 0 (zA g)) 78 [(0, .ref (g.2.2.1 105)), (1, .ref (g.2.2.1 k1)), (2, .int x2), (3, .int x3), (4, .int x4), (5, .int x5)] [] (u, W)) (x2 : Int32) (x3 : Int32) (x4 : Int32) (x5 : Int32) (u : MU) (h : wb_X5_solve_139 L63 L78 k1 Q x2 x3 x4 x5 u) : WM p l e rm_X5_solve s m args below meth c g 8 0 0 (MQ below (zQv g (zPxv W Q)) args s 0 0 (zA g)) 139 [(0, .ref (g.2.2.1 105)), (1, .ref (g.2.2.1 k1)), (2, .int x2), (3, .int x3), (4, .int x4), (5, .int x5)] [] (u, W) := by
  unfold wb_X5_solve_139 at h
  obtain ⟨x5_1, hx5_1⟩ : ∃ z, z = x5 + (1 : Int32) := ⟨_, rfl⟩
  have h := h x5_1 hx5_1
  refine zm_iinc (v := x5_1) (lv' := [(5, .int x5_1), (0, .ref (g.2.2.1 105)), (1, .ref (g.2.2.1 k1)), (2, .int x2), (3, .int x3), (4, .int x4)]) C dX5_solve_139 5 rfl (by rw [hx5_1]; rfl) (by decide) rfl ?_
  refine zm_goto (tgt := 78) C dX5_solve_142 (by decide) ?_
  exact zm_sub [1, 2, 3, 4, 5, 0] rfl (hL78 _ _ _ _ _ h)
def wb_X5_solve_118 (L63 : Int32 → Int32 → Int32 → MU → Prop) (L78 : Int32 → Int32 → Int32 → Int32 → MU → Prop) (k1 : Nat) (Q : MU → Prop) (x2 : Int32) (x3 : Int32) (x4 : Int32) (x5 : Int32) (x6 : Int32) (s0 : Int32) (u : MU) : Prop := ((s0 = 0) → wb_X5_solve_139 L63 L78 k1 Q x2 x3 x4 x5 u) ∧ ((¬ s0 = 0) → w_X9_put 107 x6 s0 u (fun u_3 => ∀ x3_4, x3_4 = x3 + (1 : Int32) → wb_X5_solve_139 L63 L78 k1 Q x2 x3_4 x4 x5 u_3))
set_option maxHeartbeats 4000000 in
set_option maxRecDepth 100000 in
theorem vb_X5_solve_118 {p : Program} {l : Launch} {e : Env} {s : State} {m : MethodId} {args : Array Value} {below : List Frame} {meth : Method} {c : Code} {g : GE} {W : MU × ((Nat → Int64) × (Nat → UInt64))} {k1 : Nat} {Q : MU → Prop} (C : zCx p l s m args meth c g RX5 cX5_solve 8) (hr : meth.sig.returnType = (Option.none : Option Jvm.ClassFile.FieldType)) (hk1 : zkd k1 = 3) {L63 : Int32 → Int32 → Int32 → MU → Prop} {L78 : Int32 → Int32 → Int32 → Int32 → MU → Prop} (hL63 : ∀ (x2 : Int32) (x3 : Int32) (x4 : Int32) (u : MU), L63 x2 x3 x4 u → WM p l e rm_X5_solve s m args below meth c g 8 0 0 (MQ below (zQv g (zPxv W Q)) args s 0 0 (zA g)) 63 [(0, .ref (g.2.2.1 105)), (1, .ref (g.2.2.1 k1)), (2, .int x2), (3, .int x3), (4, .int x4)] [] (u, W)) (hL78 : ∀ (x2 : Int32) (x3 : Int32) (x4 : Int32) (x5 : Int32) (u : MU), L78 x2 x3 x4 x5 u → WM p l e rm_X5_solve s m args below meth c g 8 0 0 (MQ below (zQv g (zPxv W Q)) args s 0 0 (zA g)) 78 [(0, .ref (g.2.2.1 105)), (1, .ref (g.2.2.1 k1)), (2, .int x2), (3, .int x3), (4, .int x4), (5, .int x5)] [] (u, W)) (x2 : Int32) (x3 : Int32) (x4 : Int32) (x5 : Int32) (x6 : Int32) (s0 : Int32) (u : MU) (h : wb_X5_solve_118 L63 L78 k1 Q x2 x3 x4 x5 x6 s0 u) : WM p l e rm_X5_solve s m args below meth c g 8 0 0 (MQ below (zQv g (zPxv W Q)) args s 0 0 (zA g)) 118 [(0, .ref (g.2.2.1 105)), (1, .ref (g.2.2.1 k1)), (2, .int x2), (3, .int x3), (4, .int x4), (5, .int x5), (6, .int x6)] [.int s0] (u, W) := by
  unfold wb_X5_solve_118 at h
  refine zm_istore (lv' := [(7, .int s0), (0, .ref (g.2.2.1 105)), (1, .ref (g.2.2.1 k1)), (2, .int x2), (3, .int x3), (4, .int x4), (5, .int x5), (6, .int x6)]) C dX5_solve_118 (by decide) rfl ?_
  refine zm_iload C dX5_solve_120 0 rfl ?_
  refine zm_if_eq (tgt := 139) C dX5_solve_122 (by decide) (fun hc_1 => ?_) (fun hc_1 => ?_)
  · have h := h.1 hc_1
    exact zm_sub [1, 2, 3, 4, 5, 6] rfl (vb_X5_solve_139 C hr hk1 hL63 hL78 _ _ _ _ _ h)
  · have h := h.2 hc_1
    refine zm_aload_n C dX5_solve_125 rfl 1 rfl ?_
    refine gf_RX5_19 (k1 := 107) C kd_105 rfl dX5_solve_126 ?_
    refine zm_iload C dX5_solve_129 7 rfl ?_
    refine zm_iload C dX5_solve_131 0 rfl ?_
    refine zm_cv (zr_SN (As := [.ref (g.2.2.1 107), .int x6, .int s0]) (rest := []) C (c_X9_put l g u W 107 kd_107 x6 s0 h) wd_997 wd_480 wd_1 wd_481 hz_X9_put rfl rfl ⟨by decide, by decide⟩ ⟨by decide, by decide⟩ rfl rfl (Nat.le_of_ble_eq_true rfl) dX5_solve_133) (fun M1 hq => ?_)
    obtain ⟨u_3, rfl, h⟩ := hq
    obtain ⟨x3_4, hx3_4⟩ : ∃ z, z = x3 + (1 : Int32) := ⟨_, rfl⟩
    have h := h x3_4 hx3_4
    refine zm_iinc (v := x3_4) (lv' := [(3, .int x3_4), (7, .int s0), (0, .ref (g.2.2.1 105)), (1, .ref (g.2.2.1 k1)), (2, .int x2), (4, .int x4), (5, .int x5), (6, .int x6)]) C dX5_solve_136 4 rfl (by rw [hx3_4]; rfl) (by decide) rfl ?_
    exact zm_sub [2, 3, 4, 0, 5, 6] rfl (vb_X5_solve_139 C hr hk1 hL63 hL78 _ _ _ _ _ h)
def wl_X5_solve_78 (L63 : Int32 → Int32 → Int32 → MU → Prop) (k1 : Nat) (Q : MU → Prop) : Nat → Int32 → Int32 → Int32 → Int32 → MU → Prop
  | 0, _, _, _, _, _ => False
  | n + 1, x2, x3, x4, x5, u => ((x2 ≤ x5) → ∀ x4_2, x4_2 = x4 + (1 : Int32) → L63 x2 x3 x4_2 u) ∧ ((¬ x2 ≤ x5) → w_X9_at 106 u x5 (fun r_3 => w_X9_at 107 u r_3 (fun r_5 => ((¬ r_5 = 0) → wb_X5_solve_118 L63 (fun x2' x3' x4' x5' u' => wl_X5_solve_78 L63 k1 Q n x2' x3' x4' x5' u') k1 Q x2 x3 x4 x5 r_3 (0 : Int32) u) ∧ ((r_5 = 0) → w_X5_seen k1 u r_3 (fun r_8 => wb_X5_solve_118 L63 (fun x2' x3' x4' x5' u' => wl_X5_solve_78 L63 k1 Q n x2' x3' x4' x5' u') k1 Q x2 x3 x4 x5 r_3 r_8 u)))))
set_option maxHeartbeats 4000000 in
set_option maxRecDepth 100000 in
theorem vl_X5_solve_78 {p : Program} {l : Launch} {e : Env} {s : State} {m : MethodId} {args : Array Value} {below : List Frame} {meth : Method} {c : Code} {g : GE} {W : MU × ((Nat → Int64) × (Nat → UInt64))} {k1 : Nat} {Q : MU → Prop} (C : zCx p l s m args meth c g RX5 cX5_solve 8) (hr : meth.sig.returnType = (Option.none : Option Jvm.ClassFile.FieldType)) (hk1 : zkd k1 = 3) {L63 : Int32 → Int32 → Int32 → MU → Prop} (hL63 : ∀ (x2 : Int32) (x3 : Int32) (x4 : Int32) (u : MU), L63 x2 x3 x4 u → WM p l e rm_X5_solve s m args below meth c g 8 0 0 (MQ below (zQv g (zPxv W Q)) args s 0 0 (zA g)) 63 [(0, .ref (g.2.2.1 105)), (1, .ref (g.2.2.1 k1)), (2, .int x2), (3, .int x3), (4, .int x4)] [] (u, W)) : ∀ (n : Nat) (x2 : Int32) (x3 : Int32) (x4 : Int32) (x5 : Int32) (u : MU) , wl_X5_solve_78 L63 k1 Q n x2 x3 x4 x5 u → WM p l e rm_X5_solve s m args below meth c g 8 0 0 (MQ below (zQv g (zPxv W Q)) args s 0 0 (zA g)) 78 [(0, .ref (g.2.2.1 105)), (1, .ref (g.2.2.1 k1)), (2, .int x2), (3, .int x3), (4, .int x4), (5, .int x5)] [] (u, W) := by
  intro n
  induction n with
  | zero => intro _ _ _ _ _ h; exact h.elim
  | succ n ih =>
    intro x2 x3 x4 x5 u h
    unfold wl_X5_solve_78 at h
    refine zm_iload C dX5_solve_78 5 rfl ?_
    refine zm_iload_n C dX5_solve_80 rfl 2 rfl ?_
    refine zm_icmp_ge (tgt := 145) C dX5_solve_81 (by decide) (fun hc_1 => ?_) (fun hc_1 => ?_)
    · have h := h.1 hc_1
      obtain ⟨x4_2, hx4_2⟩ : ∃ z, z = x4 + (1 : Int32) := ⟨_, rfl⟩
      have h := h x4_2 hx4_2
      refine zm_iinc (v := x4_2) (lv' := [(4, .int x4_2), (0, .ref (g.2.2.1 105)), (1, .ref (g.2.2.1 k1)), (2, .int x2), (3, .int x3), (5, .int x5)]) C dX5_solve_145 4 rfl (by rw [hx4_2]; rfl) (by decide) rfl ?_
      refine zm_goto (tgt := 63) C dX5_solve_148 (by decide) ?_
      exact zm_sub [1, 2, 3, 4, 0] rfl (hL63 _ _ _ _ h)
    · have h := h.2 hc_1
      refine zm_aload_n C dX5_solve_84 rfl 0 rfl ?_
      refine gf_RX5_15 (k1 := 106) C kd_105 rfl dX5_solve_85 ?_
      refine zm_iload C dX5_solve_88 5 rfl ?_
      refine zm_ci (zr_SN (As := [.ref (g.2.2.1 106), .int x5]) (rest := []) C (c_X9_at l g u W 106 kd_106 x5 h) wd_996 wd_473 wd_1 wd_474 hz_X9_at rfl rfl ⟨by decide, by decide⟩ ⟨by decide, by decide⟩ rfl rfl (Nat.le_of_ble_eq_true rfl) dX5_solve_90) (fun r_3 M1 hq => ?_)
      obtain ⟨rfl, h⟩ := hq
      refine zm_istore (lv' := [(6, .int r_3), (0, .ref (g.2.2.1 105)), (1, .ref (g.2.2.1 k1)), (2, .int x2), (3, .int x3), (4, .int x4), (5, .int x5)]) C dX5_solve_93 (by decide) rfl ?_
      refine zm_aload_n C dX5_solve_95 rfl 1 rfl ?_
      refine gf_RX5_19 (k1 := 107) C kd_105 rfl dX5_solve_96 ?_
      refine zm_iload C dX5_solve_99 0 rfl ?_
      refine zm_ci (zr_SN (As := [.ref (g.2.2.1 107), .int r_3]) (rest := []) C (c_X9_at l g u W 107 kd_107 r_3 h) wd_996 wd_473 wd_1 wd_474 hz_X9_at rfl rfl ⟨by decide, by decide⟩ ⟨by decide, by decide⟩ rfl rfl (Nat.le_of_ble_eq_true rfl) dX5_solve_101) (fun r_5 M1 hq => ?_)
      obtain ⟨rfl, h⟩ := hq
      refine zm_if_ne (tgt := 117) C dX5_solve_104 (by decide) (fun hc_7 => ?_) (fun hc_7 => ?_)
      · have h := h.1 hc_7
        refine zm_iconst (v := 0) C dX5_solve_117 (by decide) ?_
        exact zm_sub [1, 2, 3, 4, 5, 6, 0] rfl (vb_X5_solve_118 C hr hk1 hL63 ih _ _ _ _ _ _ _ h)
      · have h := h.2 hc_7
        refine zm_aload_n C dX5_solve_107 rfl 1 rfl ?_
        refine zm_aload_n C dX5_solve_108 rfl 2 rfl ?_
        refine zm_iload C dX5_solve_109 0 rfl ?_
        refine zm_ci (zr_V (As := [.ref (g.2.2.1 k1), .int r_3]) (rest := []) C (c_X5_seen l g u W k1 hk1 r_3 h) wd_998 wd_1000 wp_28 wd_7 wd_1001 hy_X5_seen rfl rfl ⟨by decide, by decide⟩ ⟨by decide, by decide⟩ (ci := 5) (by decide) (zCell_k kd_105) rfl rfl rfl rfl (Nat.le_of_ble_eq_true rfl) dX5_solve_111) (fun r_8 M1 hq => ?_)
        obtain ⟨rfl, h⟩ := hq
        refine zm_goto (tgt := 118) C dX5_solve_114 (by decide) ?_
        exact zm_sub [1, 2, 3, 4, 5, 6, 0] rfl (vb_X5_solve_118 C hr hk1 hL63 ih _ _ _ _ _ _ _ h)
def wl_X5_solve_63 (k1 : Nat) (Q : MU → Prop) : Nat → Int32 → Int32 → Int32 → MU → Prop
  | 0, _, _, _, _ => False
  | n + 1, x2, x3, x4, u => ((x2 < x4) → Q u) ∧ ((¬ x2 < x4) → ((x3 ≤ 0) → Q u) ∧ ((¬ x3 ≤ 0) → ∃ nn, wl_X5_solve_78 (fun x2' x3' x4' u' => wl_X5_solve_63 k1 Q n x2' x3' x4' u') k1 Q nn x2 (0 : Int32) x4 (0 : Int32) u))
set_option maxHeartbeats 4000000 in
set_option maxRecDepth 100000 in
theorem vl_X5_solve_63 {p : Program} {l : Launch} {e : Env} {s : State} {m : MethodId} {args : Array Value} {below : List Frame} {meth : Method} {c : Code} {g : GE} {W : MU × ((Nat → Int64) × (Nat → UInt64))} {k1 : Nat} {Q : MU → Prop} (C : zCx p l s m args meth c g RX5 cX5_solve 8) (hr : meth.sig.returnType = (Option.none : Option Jvm.ClassFile.FieldType)) (hk1 : zkd k1 = 3) : ∀ (n : Nat) (x2 : Int32) (x3 : Int32) (x4 : Int32) (u : MU) , wl_X5_solve_63  k1 Q n x2 x3 x4 u → WM p l e rm_X5_solve s m args below meth c g 8 0 0 (MQ below (zQv g (zPxv W Q)) args s 0 0 (zA g)) 63 [(0, .ref (g.2.2.1 105)), (1, .ref (g.2.2.1 k1)), (2, .int x2), (3, .int x3), (4, .int x4)] [] (u, W) := by
  intro n
  induction n with
  | zero => intro _ _ _ _ h; exact h.elim
  | succ n ih =>
    intro x2 x3 x4 u h
    unfold wl_X5_solve_63 at h
    refine zm_iload C dX5_solve_63 4 rfl ?_
    refine zm_iload_n C dX5_solve_65 rfl 2 rfl ?_
    refine zm_icmp_gt (tgt := 151) C dX5_solve_66 (by decide) (fun hc_1 => ?_) (fun hc_1 => ?_)
    · have h := h.1 hc_1
      exact zm_vret C hr dX5_solve_151 ⟨_, rfl, h⟩
    · have h := h.2 hc_1
      refine zm_iload_n C dX5_solve_69 rfl 3 rfl ?_
      refine zm_if_le (tgt := 151) C dX5_solve_70 (by decide) (fun hc_2 => ?_) (fun hc_2 => ?_)
      · have h := h.1 hc_2
        exact zm_vret C hr dX5_solve_151 ⟨_, rfl, h⟩
      · have h := h.2 hc_2
        refine zm_iconst (v := 0) C dX5_solve_73 (by decide) ?_
        refine zm_istore_n (lv' := [(3, .int (0 : Int32)), (0, .ref (g.2.2.1 105)), (1, .ref (g.2.2.1 k1)), (2, .int x2), (4, .int x4)]) C dX5_solve_74 rfl (by decide) rfl ?_
        refine zm_iconst (v := 0) C dX5_solve_75 (by decide) ?_
        refine zm_istore (lv' := [(5, .int (0 : Int32)), (3, .int (0 : Int32)), (0, .ref (g.2.2.1 105)), (1, .ref (g.2.2.1 k1)), (2, .int x2), (4, .int x4)]) C dX5_solve_76 (by decide) rfl ?_
        obtain ⟨nn, h⟩ := h
        exact zm_sub [2, 3, 4, 1, 5, 0] rfl (vl_X5_solve_78 C hr hk1 ih nn _ _ _ _ _ h)
def wl_X5_solve_31 (k1 : Nat) (Q : MU → Prop) : Nat → Int32 → Int32 → MU → Prop
  | 0, _, _, _ => False
  | n + 1, x2, x3, u => ((x2 ≤ x3) → ∃ nn, wl_X5_solve_63  k1 Q nn x2 x2 (0 : Int32) u) ∧ ((¬ x2 ≤ x3) → w_X9_at 106 u x3 (fun r_2 => w_X9_put 107 r_2 (0 : Int32) u (fun u_5 => ∀ x3_6, x3_6 = x3 + (1 : Int32) → wl_X5_solve_31  k1 Q n x2 x3_6 u_5)))
set_option maxHeartbeats 4000000 in
set_option maxRecDepth 100000 in
theorem vl_X5_solve_31 {p : Program} {l : Launch} {e : Env} {s : State} {m : MethodId} {args : Array Value} {below : List Frame} {meth : Method} {c : Code} {g : GE} {W : MU × ((Nat → Int64) × (Nat → UInt64))} {k1 : Nat} {Q : MU → Prop} (C : zCx p l s m args meth c g RX5 cX5_solve 8) (hr : meth.sig.returnType = (Option.none : Option Jvm.ClassFile.FieldType)) (hk1 : zkd k1 = 3) : ∀ (n : Nat) (x2 : Int32) (x3 : Int32) (u : MU) , wl_X5_solve_31  k1 Q n x2 x3 u → WM p l e rm_X5_solve s m args below meth c g 8 0 0 (MQ below (zQv g (zPxv W Q)) args s 0 0 (zA g)) 31 [(0, .ref (g.2.2.1 105)), (1, .ref (g.2.2.1 k1)), (2, .int x2), (3, .int x3)] [] (u, W) := by
  intro n
  induction n with
  | zero => intro _ _ _ h; exact h.elim
  | succ n ih =>
    intro x2 x3 u h
    unfold wl_X5_solve_31 at h
    refine zm_iload_n C dX5_solve_31 rfl 3 rfl ?_
    refine zm_iload_n C dX5_solve_32 rfl 2 rfl ?_
    refine zm_icmp_ge (tgt := 58) C dX5_solve_33 (by decide) (fun hc_1 => ?_) (fun hc_1 => ?_)
    · have h := h.1 hc_1
      refine zm_iload_n C dX5_solve_58 rfl 2 rfl ?_
      refine zm_istore_n (lv' := [(3, .int x2), (0, .ref (g.2.2.1 105)), (1, .ref (g.2.2.1 k1)), (2, .int x2)]) C dX5_solve_59 rfl (by decide) rfl ?_
      refine zm_iconst (v := 0) C dX5_solve_60 (by decide) ?_
      refine zm_istore (lv' := [(4, .int (0 : Int32)), (3, .int x2), (0, .ref (g.2.2.1 105)), (1, .ref (g.2.2.1 k1)), (2, .int x2)]) C dX5_solve_61 (by decide) rfl ?_
      obtain ⟨nn, h⟩ := h
      exact zm_sub [2, 3, 4, 1, 0] rfl (vl_X5_solve_63 C hr hk1  nn _ _ _ _ h)
    · have h := h.2 hc_1
      refine zm_aload_n C dX5_solve_36 rfl 0 rfl ?_
      refine gf_RX5_19 (k1 := 107) C kd_105 rfl dX5_solve_37 ?_
      refine zm_aload_n C dX5_solve_40 rfl 0 rfl ?_
      refine gf_RX5_15 (k1 := 106) C kd_105 rfl dX5_solve_41 ?_
      refine zm_iload_n C dX5_solve_44 rfl 3 rfl ?_
      refine zm_ci (zr_SN (As := [.ref (g.2.2.1 106), .int x3]) (rest := [.ref (g.2.2.1 107)]) C (c_X9_at l g u W 106 kd_106 x3 h) wd_996 wd_473 wd_1 wd_474 hz_X9_at rfl rfl ⟨by decide, by decide⟩ ⟨by decide, by decide⟩ rfl rfl (Nat.le_of_ble_eq_true rfl) dX5_solve_45) (fun r_2 M1 hq => ?_)
      obtain ⟨rfl, h⟩ := hq
      refine zm_iconst (v := 0) C dX5_solve_48 (by decide) ?_
      refine zm_cv (zr_SN (As := [.ref (g.2.2.1 107), .int r_2, .int (0 : Int32)]) (rest := []) C (c_X9_put l g u W 107 kd_107 r_2 (0 : Int32) h) wd_997 wd_480 wd_1 wd_481 hz_X9_put rfl rfl ⟨by decide, by decide⟩ ⟨by decide, by decide⟩ rfl rfl (Nat.le_of_ble_eq_true rfl) dX5_solve_49) (fun M1 hq => ?_)
      obtain ⟨u_5, rfl, h⟩ := hq
      obtain ⟨x3_6, hx3_6⟩ : ∃ z, z = x3 + (1 : Int32) := ⟨_, rfl⟩
      have h := h x3_6 hx3_6
      refine zm_iinc (v := x3_6) (lv' := [(3, .int x3_6), (0, .ref (g.2.2.1 105)), (1, .ref (g.2.2.1 k1)), (2, .int x2)]) C dX5_solve_52 3 rfl (by rw [hx3_6]; rfl) (by decide) rfl ?_
      refine zm_goto (tgt := 31) C dX5_solve_55 (by decide) ?_
      exact zm_sub [1, 2, 3, 0] rfl (ih _ _ _ h)
def w_X5_solve (k1 : Nat) (u : MU) (Q : MU → Prop) : Prop := ((¬ (u 105 0) = (u k1 4)) → (∀ u_2, u_2 = u2 u 105 0 (u k1 4) → w_X1_listPositions k1 106 u_2 (fun r_3 u_4 => ∃ nn, wl_X5_solve_31  k1 Q nn r_3 (0 : Int32) u_4))) ∧ (((u 105 0) = (u k1 4)) → Q u)
set_option maxHeartbeats 4000000 in
set_option maxRecDepth 100000 in
theorem c_X5_solve (l : Launch) (g : GE) (u : MU) (W : MU × ((Nat → Int64) × (Nat → UInt64))) (k1 : Nat) (hk1 : zkd k1 = 3) {Q : MU → Prop} (h : w_X5_solve k1 u Q) : Met l yX5_solve (.code yX5_solve cX5_solve 8 (Option.none : Option Jvm.ClassFile.FieldType) :: TB) rm_X5_solve (zPc g (u, W) [.ref (g.2.2.1 105), .ref (g.2.2.1 k1)]) (zQv g (zPxv W Q)) 0 0 (zA g) := by
  unfold w_X5_solve at h
  refine zMet (own := RX5) [(0, .ref (g.2.2.1 105)), (1, .ref (g.2.2.1 k1))] (by decide +kernel) rfl (Nat.le_of_ble_eq_true rfl) rfl (fun p e s m args below meth c C hr => ?_)
  refine zm_aload_n C dX5_solve_0 rfl 0 rfl ?_
  refine gf_RX5_9 C kd_105 dX5_solve_1 ?_
  refine zm_aload_n C dX5_solve_4 rfl 1 rfl ?_
  refine gf_RX5_22 C hk1 dX5_solve_5 ?_
  refine zm_icmp_ne (tgt := 12) C dX5_solve_8 (by decide) (fun hc_1 => ?_) (fun hc_1 => ?_)
  · have h := h.1 hc_1
    refine zm_aload_n C dX5_solve_12 rfl 0 rfl ?_
    refine zm_aload_n C dX5_solve_13 rfl 1 rfl ?_
    refine gf_RX5_22 C hk1 dX5_solve_14 ?_
    refine pf_RX5_9 C kd_105  dX5_solve_17 (fun u_2 hu_2 => ?_)
    have h := h u_2 hu_2
    refine zm_aload_n C dX5_solve_20 rfl 1 rfl ?_
    refine zm_aload_n C dX5_solve_21 rfl 0 rfl ?_
    refine gf_RX5_15 (k1 := 106) C kd_105 rfl dX5_solve_22 ?_
    refine zm_ci (zr_V (As := [.ref (g.2.2.1 106)]) (rest := []) C (c_X1_listPositions l g u_2 W k1 106 hk1 kd_106 h) wd_995 wd_599 wd_600 wd_3 wd_601 hy_X1_listPositions rfl rfl ⟨by decide, by decide⟩ ⟨by decide, by decide⟩ (ci := 1) (zkd_lt hk1 (by decide)) (zCell_k hk1) rfl rfl rfl rfl (Nat.le_of_ble_eq_true rfl) dX5_solve_25) (fun r_3 M1 hq => ?_)
    obtain ⟨u_4, rfl, h⟩ := hq
    refine zm_istore_n (lv' := [(2, .int r_3), (0, .ref (g.2.2.1 105)), (1, .ref (g.2.2.1 k1))]) C dX5_solve_28 rfl (by decide) rfl ?_
    refine zm_iconst (v := 0) C dX5_solve_29 (by decide) ?_
    refine zm_istore_n (lv' := [(3, .int (0 : Int32)), (2, .int r_3), (0, .ref (g.2.2.1 105)), (1, .ref (g.2.2.1 k1))]) C dX5_solve_30 rfl (by decide) rfl ?_
    obtain ⟨nn, h⟩ := h
    exact zm_sub [2, 3, 1, 0] rfl (vl_X5_solve_31 C hr hk1  nn _ _ _ h)
  · have h := h.2 hc_1
    exact zm_vret C hr dX5_solve_11 ⟨_, rfl, h⟩
abbrev rm_X5_outcomeOf : Room := { frames := 1, cells := 0, slots := 0, locals := 21 }
def w_X5_outcomeOf (u : MU) (x1 : Int32) (Q : Int32 → Prop) : Prop := w_X9_at 107 u x1 (fun r_1 => Q r_1)
set_option maxHeartbeats 4000000 in
set_option maxRecDepth 100000 in
theorem c_X5_outcomeOf (l : Launch) (g : GE) (u : MU) (W : MU × ((Nat → Int64) × (Nat → UInt64))) (x1 : Int32) {Q : Int32 → Prop} (h : w_X5_outcomeOf u x1 Q) : Met l yX5_outcomeOf (.code yX5_outcomeOf cX5_outcomeOf 2 (Option.some Jvm.ClassFile.FieldType.int) :: TB) rm_X5_outcomeOf (zPc g (u, W) [.ref (g.2.2.1 105), .int x1]) (zQi g (zP0 (u, W) Q)) 0 0 (zA g) := by
  unfold w_X5_outcomeOf at h
  refine zMet (own := RX5) [(0, .ref (g.2.2.1 105)), (1, .int x1)] (by decide +kernel) rfl (Nat.le_of_ble_eq_true rfl) rfl (fun p e s m args below meth c C hr => ?_)
  refine zm_aload_n C dX5_outcomeOf_0 rfl 0 rfl ?_
  refine gf_RX5_19 (k1 := 107) C kd_105 rfl dX5_outcomeOf_1 ?_
  refine zm_iload_n C dX5_outcomeOf_4 rfl 1 rfl ?_
  refine zm_ci (zr_SN (As := [.ref (g.2.2.1 107), .int x1]) (rest := []) C (c_X9_at l g u W 107 kd_107 x1 h) wd_996 wd_473 wd_1 wd_474 hz_X9_at rfl rfl ⟨by decide, by decide⟩ ⟨by decide, by decide⟩ rfl rfl (Nat.le_of_ble_eq_true rfl) dX5_outcomeOf_5) (fun r_1 M1 hq => ?_)
  obtain ⟨rfl, h⟩ := hq
  exact zm_iret C hr dX5_outcomeOf_8 ⟨rfl, h⟩
abbrev rm_X7_isDecided : Room := { frames := 1, cells := 0, slots := 0, locals := 22 }
def w_X7_isDecided (k0 : Nat) (x1 : Int32) (x2 : Int32) (u : MU) (Q : Int32 → MU → Prop) : Prop := ((¬ (x2 - x2 / (2 : Int32) * (2 : Int32)) = 0) → w_X9_at (k0 + 4) u x1 (fun r_2 => ∀ x3_4, x3_4 = (r_2 - (1 : Int32)) → w_X9_put (k0 + 4) x1 x3_4 u (fun u_6 => ((¬ x3_4 = 0) → Q (0 : Int32) u_6) ∧ ((x3_4 = 0) → Q (1 : Int32) u_6)))) ∧ (((x2 - x2 / (2 : Int32) * (2 : Int32)) = 0) → Q (1 : Int32) u)
set_option maxHeartbeats 4000000 in
set_option maxRecDepth 100000 in
theorem c_X7_isDecided (l : Launch) (g : GE) (u : MU) (W : MU × ((Nat → Int64) × (Nat → UInt64))) (k0 : Nat) (hk0 : zkd k0 = 9) (x1 : Int32) (x2 : Int32) {Q : Int32 → MU → Prop} (h : w_X7_isDecided k0 x1 x2 u Q) : Met l yX7_isDecided (.code yX7_isDecided cX7_isDecided 4 (Option.some Jvm.ClassFile.FieldType.boolean) :: TB) rm_X7_isDecided (zPc g (u, W) [.ref (g.2.2.1 k0), .int x1, .int x2]) (zQi g (zPx W Q)) 0 0 (zA g) := by
  unfold w_X7_isDecided at h
  refine zMet (own := RX7) [(0, .ref (g.2.2.1 k0)), (1, .int x1), (2, .int x2)] (by decide +kernel) rfl (Nat.le_of_ble_eq_true rfl) rfl (fun p e s m args below meth c C hr => ?_)
  refine zm_iload_n C dX7_isDecided_0 rfl 2 rfl ?_
  refine zm_iconst (v := 2) C dX7_isDecided_1 (by decide) ?_
  refine zm_irem C dX7_isDecided_2 (by decide) ?_
  refine zm_if_ne (tgt := 8) C dX7_isDecided_3 (by decide) (fun hc_1 => ?_) (fun hc_1 => ?_)
  · have h := h.1 hc_1
    refine zm_aload_n C dX7_isDecided_8 rfl 0 rfl ?_
    refine gf_RX7_25 (k1 := (k0 + 4)) C hk0 rfl dX7_isDecided_9 ?_
    refine zm_iload_n C dX7_isDecided_12 rfl 1 rfl ?_
    refine zm_ci (zr_SN (As := [.ref (g.2.2.1 (k0 + 4)), .int x1]) (rest := []) C (c_X9_at l g u W (k0 + 4) (zk9_4 hk0) x1 h) wd_610 wd_473 wd_1 wd_474 hz_X9_at rfl rfl ⟨by decide, by decide⟩ ⟨by decide, by decide⟩ rfl rfl (Nat.le_of_ble_eq_true rfl) dX7_isDecided_13) (fun r_2 M1 hq => ?_)
    obtain ⟨rfl, h⟩ := hq
    refine zm_iconst (v := 1) C dX7_isDecided_16 (by decide) ?_
    refine zm_isub C dX7_isDecided_17 ?_
    refine zm_nmI (fun x3_4 hx3_4 => ?_)
    have h := h x3_4 hx3_4
    refine zm_istore_n (lv' := [(3, .int x3_4), (0, .ref (g.2.2.1 k0)), (1, .int x1), (2, .int x2)]) C dX7_isDecided_18 rfl (by decide) rfl ?_
    refine zm_aload_n C dX7_isDecided_19 rfl 1 rfl ?_
    refine gf_RX7_25 (k1 := (k0 + 4)) C hk0 rfl dX7_isDecided_20 ?_
    refine zm_iload_n C dX7_isDecided_23 rfl 2 rfl ?_
    refine zm_iload_n C dX7_isDecided_24 rfl 0 rfl ?_
    refine zm_cv (zr_SN (As := [.ref (g.2.2.1 (k0 + 4)), .int x1, .int x3_4]) (rest := []) C (c_X9_put l g u W (k0 + 4) (zk9_4 hk0) x1 x3_4 h) wd_642 wd_480 wd_1 wd_481 hz_X9_put rfl rfl ⟨by decide, by decide⟩ ⟨by decide, by decide⟩ rfl rfl (Nat.le_of_ble_eq_true rfl) dX7_isDecided_25) (fun M1 hq => ?_)
    obtain ⟨u_6, rfl, h⟩ := hq
    refine zm_iload_n C dX7_isDecided_28 rfl 0 rfl ?_
    refine zm_if_ne (tgt := 36) C dX7_isDecided_29 (by decide) (fun hc_7 => ?_) (fun hc_7 => ?_)
    · have h := h.1 hc_7
      refine zm_iconst (v := 0) C dX7_isDecided_36 (by decide) ?_
      exact zm_zret (ty := .boolean) C hr (by decide) dX7_isDecided_37 ⟨_, rfl, h⟩
    · have h := h.2 hc_7
      refine zm_iconst (v := 1) C dX7_isDecided_32 (by decide) ?_
      refine zm_goto (tgt := 37) C dX7_isDecided_33 (by decide) ?_
      exact zm_zret (ty := .boolean) C hr (by decide) dX7_isDecided_37 ⟨_, rfl, h⟩
  · have h := h.2 hc_1
    refine zm_iconst (v := 1) C dX7_isDecided_6 (by decide) ?_
    exact zm_zret (ty := .boolean) C hr (by decide) dX7_isDecided_7 ⟨_, rfl, h⟩
abbrev rm_X7_tellBefore : Room := { frames := 2, cells := 0, slots := 0, locals := 50 }
def wb_X7_tellBefore_114 (L26 : Int32 → Int32 → Int32 → Int64 → Int32 → Int32 → MU → Prop) (k0 : Nat) (Q : Int32 → MU → Prop) (x1 : Int32) (x5 : Int32) (x6 : Int32) (x7 : Int64) (x9 : Int32) (x10 : Int32) (u : MU) : Prop := ∀ x10_1, x10_1 = x10 + (1 : Int32) → L26 x1 x5 x6 x7 x9 x10_1 u
set_option maxHeartbeats 4000000 in
set_option maxRecDepth 100000 in
theorem vb_X7_tellBefore_114 {p : Program} {l : Launch} {e : Env} {s : State} {m : MethodId} {args : Array Value} {below : List Frame} {meth : Method} {c : Code} {g : GE} {W : MU × ((Nat → Int64) × (Nat → UInt64))} {k0 : Nat} {Q : Int32 → MU → Prop} (C : zCx p l s m args meth c g RX7 cX7_tellBefore 13) (hr : meth.sig.returnType = (Option.some Jvm.ClassFile.FieldType.int)) (hk0 : zkd k0 = 9) {L26 : Int32 → Int32 → Int32 → Int64 → Int32 → Int32 → MU → Prop} (hL26 : ∀ (x1 : Int32) (x5 : Int32) (x6 : Int32) (x7 : Int64) (x9 : Int32) (x10 : Int32) (u : MU), L26 x1 x5 x6 x7 x9 x10 u → WM p l e rm_X7_tellBefore s m args below meth c g 13 0 0 (MQ below (zQi g (zPx W Q)) args s 0 0 (zA g)) 26 [(0, .ref (g.2.2.1 k0)), (1, .int x1), (5, .int x5), (6, .int x6), (7, .long x7), (9, .int x9), (10, .int x10)] [] (u, W)) (x1 : Int32) (x5 : Int32) (x6 : Int32) (x7 : Int64) (x9 : Int32) (x10 : Int32) (u : MU) (h : wb_X7_tellBefore_114 L26 k0 Q x1 x5 x6 x7 x9 x10 u) : WM p l e rm_X7_tellBefore s m args below meth c g 13 0 0 (MQ below (zQi g (zPx W Q)) args s 0 0 (zA g)) 114 [(0, .ref (g.2.2.1 k0)), (1, .int x1), (5, .int x5), (6, .int x6), (7, .long x7), (9, .int x9), (10, .int x10)] [] (u, W) := by
  unfold wb_X7_tellBefore_114 at h
  obtain ⟨x10_1, hx10_1⟩ : ∃ z, z = x10 + (1 : Int32) := ⟨_, rfl⟩
  have h := h x10_1 hx10_1
  refine zm_iinc (v := x10_1) (lv' := [(10, .int x10_1), (0, .ref (g.2.2.1 k0)), (1, .int x1), (5, .int x5), (6, .int x6), (7, .long x7), (9, .int x9)]) C dX7_tellBefore_114 6 rfl (by rw [hx10_1]; rfl) (by decide) rfl ?_
  refine zm_goto (tgt := 26) C dX7_tellBefore_117 (by decide) ?_
  exact zm_sub [1, 2, 3, 4, 5, 6, 0] rfl (hL26 _ _ _ _ _ _ _ h)
def wl_X7_tellBefore_26 (k0 : Nat) (Q : Int32 → MU → Prop) : Nat → Int32 → Int32 → Int32 → Int64 → Int32 → Int32 → MU → Prop
  | 0, _, _, _, _, _, _, _ => False
  | n + 1, x1, x5, x6, x7, x9, x10, u => ((x9 ≤ x10) → Q x6 u) ∧ ((¬ x9 ≤ x10) → w_X9_firstMove x7 (fun r_2 => w_X9_withoutFirst x7 (fun r_4 => w_X9_fromOf r_2 (fun r_6 => w_X9_toOf r_2 (fun r_8 => w_X9_shifted x1 r_6 r_8 (fun r_10 => w_X9_at (k0 + 3) u r_10 (fun r_12 => ((¬ r_12 = (-1 : Int32)) → wb_X7_tellBefore_114 (fun x1' x5' x6' x7' x9' x10' u' => wl_X7_tellBefore_26 k0 Q n x1' x5' x6' x7' x9' x10' u') k0 Q x1 x5 x6 r_4 x9 x10 u) ∧ ((r_12 = (-1 : Int32)) → w_X7_isDecided k0 r_10 x5 u (fun r_15 u_16 => ((r_15 = 0) → wb_X7_tellBefore_114 (fun x1' x5' x6' x7' x9' x10' u' => wl_X7_tellBefore_26 k0 Q n x1' x5' x6' x7' x9' x10' u') k0 Q x1 x5 x6 r_4 x9 x10 u_16) ∧ ((¬ r_15 = 0) → w_X9_put (k0 + 3) r_10 (x5 + (1 : Int32)) u_16 (fun u_19 => w_X9_put (k0 + 2) x6 r_10 u_19 (fun u_21 => ∀ x6_22, x6_22 = x6 + (1 : Int32) → wb_X7_tellBefore_114 (fun x1' x5' x6' x7' x9' x10' u' => wl_X7_tellBefore_26 k0 Q n x1' x5' x6' x7' x9' x10' u') k0 Q x1 x5 x6_22 r_4 x9 x10 u_21))))))))))))
set_option maxHeartbeats 4000000 in
set_option maxRecDepth 100000 in
theorem vl_X7_tellBefore_26 {p : Program} {l : Launch} {e : Env} {s : State} {m : MethodId} {args : Array Value} {below : List Frame} {meth : Method} {c : Code} {g : GE} {W : MU × ((Nat → Int64) × (Nat → UInt64))} {k0 : Nat} {Q : Int32 → MU → Prop} (C : zCx p l s m args meth c g RX7 cX7_tellBefore 13) (hr : meth.sig.returnType = (Option.some Jvm.ClassFile.FieldType.int)) (hk0 : zkd k0 = 9) : ∀ (n : Nat) (x1 : Int32) (x5 : Int32) (x6 : Int32) (x7 : Int64) (x9 : Int32) (x10 : Int32) (u : MU) , wl_X7_tellBefore_26  k0 Q n x1 x5 x6 x7 x9 x10 u → WM p l e rm_X7_tellBefore s m args below meth c g 13 0 0 (MQ below (zQi g (zPx W Q)) args s 0 0 (zA g)) 26 [(0, .ref (g.2.2.1 k0)), (1, .int x1), (5, .int x5), (6, .int x6), (7, .long x7), (9, .int x9), (10, .int x10)] [] (u, W) := by
  intro n
  induction n with
  | zero => intro _ _ _ _ _ _ _ h; exact h.elim
  | succ n ih =>
    intro x1 x5 x6 x7 x9 x10 u h
    unfold wl_X7_tellBefore_26 at h
    refine zm_iload C dX7_tellBefore_26 6 rfl ?_
    refine zm_iload C dX7_tellBefore_28 5 rfl ?_
    refine zm_icmp_ge (tgt := 120) C dX7_tellBefore_30 (by decide) (fun hc_1 => ?_) (fun hc_1 => ?_)
    · have h := h.1 hc_1
      refine zm_iload C dX7_tellBefore_120 3 rfl ?_
      exact zm_iret C hr dX7_tellBefore_122 ⟨_, rfl, h⟩
    · have h := h.2 hc_1
      refine zm_lload C dX7_tellBefore_33 4 rfl ?_
      refine zm_ci (zr_SN (As := [.long x7]) (rest := []) C (c_X9_firstMove l g (u, W) x7 h) wd_655 wd_656 wd_1 wd_657 hz_X9_firstMove rfl rfl ⟨by decide, by decide⟩ ⟨by decide, by decide⟩ rfl rfl (Nat.le_of_ble_eq_true rfl) dX7_tellBefore_35) (fun r_2 M1 hq => ?_)
      obtain ⟨rfl, h⟩ := hq
      refine zm_istore (lv' := [(11, .int r_2), (0, .ref (g.2.2.1 k0)), (1, .int x1), (5, .int x5), (6, .int x6), (7, .long x7), (9, .int x9), (10, .int x10)]) C dX7_tellBefore_38 (by decide) rfl ?_
      refine zm_lload C dX7_tellBefore_40 5 rfl ?_
      refine zm_cl (zr_SN (As := [.long x7]) (rest := []) C (c_X9_withoutFirst l g (u, W) x7 h) wd_659 wd_660 wd_1 wd_661 hz_X9_withoutFirst rfl rfl ⟨by decide, by decide⟩ ⟨by decide, by decide⟩ rfl rfl (Nat.le_of_ble_eq_true rfl) dX7_tellBefore_42) (fun r_4 M1 hq => ?_)
      obtain ⟨rfl, h⟩ := hq
      refine zm_lstore (lv' := [(7, .long r_4), (11, .int r_2), (0, .ref (g.2.2.1 k0)), (1, .int x1), (5, .int x5), (6, .int x6), (9, .int x9), (10, .int x10)]) C dX7_tellBefore_45 (by decide) rfl ?_
      refine zm_iload_n C dX7_tellBefore_47 rfl 3 rfl ?_
      refine zm_iload C dX7_tellBefore_48 1 rfl ?_
      refine zm_ci (zr_SN (As := [.int r_2]) (rest := [.int x1]) C (c_X9_fromOf l g (u, W) r_2 h) wd_662 wd_663 wd_1 wd_664 hz_X9_fromOf rfl rfl ⟨by decide, by decide⟩ ⟨by decide, by decide⟩ rfl rfl (Nat.le_of_ble_eq_true rfl) dX7_tellBefore_50) (fun r_6 M1 hq => ?_)
      obtain ⟨rfl, h⟩ := hq
      refine zm_iload C dX7_tellBefore_53 1 rfl ?_
      refine zm_ci (zr_SN (As := [.int r_2]) (rest := [.int r_6, .int x1]) C (c_X9_toOf l g (u, W) r_2 h) wd_665 wd_666 wd_1 wd_667 hz_X9_toOf rfl rfl ⟨by decide, by decide⟩ ⟨by decide, by decide⟩ rfl rfl (Nat.le_of_ble_eq_true rfl) dX7_tellBefore_55) (fun r_8 M1 hq => ?_)
      obtain ⟨rfl, h⟩ := hq
      refine zm_ci (zr_SN (As := [.int x1, .int r_6, .int r_8]) (rest := []) C (c_X9_shifted l g (u, W) x1 r_6 r_8 h) wd_668 wd_669 wd_1 wd_670 hz_X9_shifted rfl rfl ⟨by decide, by decide⟩ ⟨by decide, by decide⟩ rfl rfl (Nat.le_of_ble_eq_true rfl) dX7_tellBefore_58) (fun r_10 M1 hq => ?_)
      obtain ⟨rfl, h⟩ := hq
      refine zm_istore (lv' := [(12, .int r_10), (7, .long r_4), (11, .int r_2), (0, .ref (g.2.2.1 k0)), (1, .int x1), (5, .int x5), (6, .int x6), (9, .int x9), (10, .int x10)]) C dX7_tellBefore_61 (by decide) rfl ?_
      refine zm_aload_n C dX7_tellBefore_63 rfl 3 rfl ?_
      refine gf_RX7_22 (k1 := (k0 + 3)) C hk0 rfl dX7_tellBefore_64 ?_
      refine zm_iload C dX7_tellBefore_67 0 rfl ?_
      refine zm_ci (zr_SN (As := [.ref (g.2.2.1 (k0 + 3)), .int r_10]) (rest := []) C (c_X9_at l g u W (k0 + 3) (zk9_3 hk0) r_10 h) wd_610 wd_473 wd_1 wd_474 hz_X9_at rfl rfl ⟨by decide, by decide⟩ ⟨by decide, by decide⟩ rfl rfl (Nat.le_of_ble_eq_true rfl) dX7_tellBefore_69) (fun r_12 M1 hq => ?_)
      obtain ⟨rfl, h⟩ := hq
      refine zm_iconst (v := -1) C dX7_tellBefore_72 (by decide) ?_
      refine zm_icmp_ne (tgt := 114) C dX7_tellBefore_73 (by decide) (fun hc_14 => ?_) (fun hc_14 => ?_)
      · have h := h.1 hc_14
        exact zm_sub [3, 4, 5, 6, 1, 7, 8] rfl (vb_X7_tellBefore_114 C hr hk0 ih _ _ _ _ _ _ _ h)
      · have h := h.2 hc_14
        refine zm_aload_n C dX7_tellBefore_76 rfl 3 rfl ?_
        refine zm_iload C dX7_tellBefore_77 0 rfl ?_
        refine zm_iload C dX7_tellBefore_79 5 rfl ?_
        refine zm_ci (zr_V (As := [.int r_10, .int x5]) (rest := []) C (c_X7_isDecided l g u W k0 hk0 r_10 x5 h) wd_679 wd_681 wp_16 wd_6 wd_682 hy_X7_isDecided rfl rfl ⟨by decide, by decide⟩ ⟨by decide, by decide⟩ (ci := 7) (zkd_lt hk0 (by decide)) (zCell_k hk0) rfl rfl rfl rfl (Nat.le_of_ble_eq_true rfl) dX7_tellBefore_81) (fun r_15 M1 hq => ?_)
        obtain ⟨u_16, rfl, h⟩ := hq
        refine zm_if_eq (tgt := 114) C dX7_tellBefore_84 (by decide) (fun hc_17 => ?_) (fun hc_17 => ?_)
        · have h := h.1 hc_17
          exact zm_sub [3, 4, 5, 6, 1, 7, 8] rfl (vb_X7_tellBefore_114 C hr hk0 ih _ _ _ _ _ _ _ h)
        · have h := h.2 hc_17
          refine zm_aload_n C dX7_tellBefore_87 rfl 3 rfl ?_
          refine gf_RX7_22 (k1 := (k0 + 3)) C hk0 rfl dX7_tellBefore_88 ?_
          refine zm_iload C dX7_tellBefore_91 0 rfl ?_
          refine zm_iload C dX7_tellBefore_93 5 rfl ?_
          refine zm_iconst (v := 1) C dX7_tellBefore_95 (by decide) ?_
          refine zm_iadd C dX7_tellBefore_96 ?_
          refine zm_cv (zr_SN (As := [.ref (g.2.2.1 (k0 + 3)), .int r_10, .int (x5 + (1 : Int32))]) (rest := []) C (c_X9_put l g u_16 W (k0 + 3) (zk9_3 hk0) r_10 (x5 + (1 : Int32)) h) wd_642 wd_480 wd_1 wd_481 hz_X9_put rfl rfl ⟨by decide, by decide⟩ ⟨by decide, by decide⟩ rfl rfl (Nat.le_of_ble_eq_true rfl) dX7_tellBefore_97) (fun M1 hq => ?_)
          obtain ⟨u_19, rfl, h⟩ := hq
          refine zm_aload_n C dX7_tellBefore_100 rfl 3 rfl ?_
          refine gf_RX7_19 (k1 := (k0 + 2)) C hk0 rfl dX7_tellBefore_101 ?_
          refine zm_iload C dX7_tellBefore_104 6 rfl ?_
          refine zm_iload C dX7_tellBefore_106 0 rfl ?_
          refine zm_cv (zr_SN (As := [.ref (g.2.2.1 (k0 + 2)), .int x6, .int r_10]) (rest := []) C (c_X9_put l g u_19 W (k0 + 2) (zk9_2 hk0) x6 r_10 h) wd_642 wd_480 wd_1 wd_481 hz_X9_put rfl rfl ⟨by decide, by decide⟩ ⟨by decide, by decide⟩ rfl rfl (Nat.le_of_ble_eq_true rfl) dX7_tellBefore_108) (fun M1 hq => ?_)
          obtain ⟨u_21, rfl, h⟩ := hq
          obtain ⟨x6_22, hx6_22⟩ : ∃ z, z = x6 + (1 : Int32) := ⟨_, rfl⟩
          have h := h x6_22 hx6_22
          refine zm_iinc (v := x6_22) (lv' := [(6, .int x6_22), (12, .int r_10), (7, .long r_4), (11, .int r_2), (0, .ref (g.2.2.1 k0)), (1, .int x1), (5, .int x5), (9, .int x9), (10, .int x10)]) C dX7_tellBefore_111 6 rfl (by rw [hx6_22]; rfl) (by decide) rfl ?_
          exact zm_sub [4, 5, 6, 0, 2, 7, 8] rfl (vb_X7_tellBefore_114 C hr hk0 ih _ _ _ _ _ _ _ h)
def w_X7_tellBefore (k0 : Nat) (x1 : Int32) (x2 : Int64) (x4 : Int32) (u : MU) (Q : Int32 → MU → Prop) : Prop := w_X9_at (k0 + 3) u x1 (fun r_1 => w_J13_bitCount_95d88 x2 (fun r_3 => ∃ nn, wl_X7_tellBefore_26  k0 Q nn x1 r_1 x4 x2 r_3 (0 : Int32) u))
set_option maxHeartbeats 4000000 in
set_option maxRecDepth 100000 in
theorem c_X7_tellBefore (l : Launch) (g : GE) (u : MU) (W : MU × ((Nat → Int64) × (Nat → UInt64))) (k0 : Nat) (hk0 : zkd k0 = 9) (x1 : Int32) (x2 : Int64) (x4 : Int32) {Q : Int32 → MU → Prop} (h : w_X7_tellBefore k0 x1 x2 x4 u Q) : Met l yX7_tellBefore (.code yX7_tellBefore cX7_tellBefore 13 (Option.some Jvm.ClassFile.FieldType.int) :: TB) rm_X7_tellBefore (zPc g (u, W) [.ref (g.2.2.1 k0), .int x1, .long x2, .int x4]) (zQi g (zPx W Q)) 0 0 (zA g) := by
  unfold w_X7_tellBefore at h
  refine zMet (own := RX7) [(0, .ref (g.2.2.1 k0)), (1, .int x1), (2, .long x2), (4, .int x4)] (by decide +kernel) rfl (Nat.le_of_ble_eq_true rfl) rfl (fun p e s m args below meth c C hr => ?_)
  refine zm_aload_n C dX7_tellBefore_0 rfl 0 rfl ?_
  refine gf_RX7_22 (k1 := (k0 + 3)) C hk0 rfl dX7_tellBefore_1 ?_
  refine zm_iload_n C dX7_tellBefore_4 rfl 1 rfl ?_
  refine zm_ci (zr_SN (As := [.ref (g.2.2.1 (k0 + 3)), .int x1]) (rest := []) C (c_X9_at l g u W (k0 + 3) (zk9_3 hk0) x1 h) wd_610 wd_473 wd_1 wd_474 hz_X9_at rfl rfl ⟨by decide, by decide⟩ ⟨by decide, by decide⟩ rfl rfl (Nat.le_of_ble_eq_true rfl) dX7_tellBefore_5) (fun r_1 M1 hq => ?_)
  obtain ⟨rfl, h⟩ := hq
  refine zm_istore (lv' := [(5, .int r_1), (0, .ref (g.2.2.1 k0)), (1, .int x1), (2, .long x2), (4, .int x4)]) C dX7_tellBefore_8 (by decide) rfl ?_
  refine zm_iload C dX7_tellBefore_10 4 rfl ?_
  refine zm_istore (lv' := [(6, .int x4), (5, .int r_1), (0, .ref (g.2.2.1 k0)), (1, .int x1), (2, .long x2), (4, .int x4)]) C dX7_tellBefore_12 (by decide) rfl ?_
  refine zm_lload_n C dX7_tellBefore_14 rfl 4 rfl ?_
  refine zm_lstore (lv' := [(7, .long x2), (6, .int x4), (5, .int r_1), (0, .ref (g.2.2.1 k0)), (1, .int x1), (2, .long x2), (4, .int x4)]) C dX7_tellBefore_15 (by decide) rfl ?_
  refine zm_lload_n C dX7_tellBefore_17 rfl 5 rfl ?_
  refine zm_ci (zr_Sx (As := [.long x2]) (rest := []) C (c_J13_bitCount_95d88 l g (u, W) x2 h) wd_636 wd_637 wd_21 wd_638 hz_J13_bitCount_95d88 rfl rfl ⟨by decide, by decide⟩ ⟨by decide, by decide⟩ rfl rfl (Nat.le_of_ble_eq_true rfl) dX7_tellBefore_18) (fun r_3 M1 hq => ?_)
  obtain ⟨rfl, h⟩ := hq
  refine zm_istore (lv' := [(9, .int r_3), (7, .long x2), (6, .int x4), (5, .int r_1), (0, .ref (g.2.2.1 k0)), (1, .int x1), (2, .long x2), (4, .int x4)]) C dX7_tellBefore_21 (by decide) rfl ?_
  refine zm_iconst (v := 0) C dX7_tellBefore_23 (by decide) ?_
  refine zm_istore (lv' := [(10, .int (0 : Int32)), (9, .int r_3), (7, .long x2), (6, .int x4), (5, .int r_1), (0, .ref (g.2.2.1 k0)), (1, .int x1), (2, .long x2), (4, .int x4)]) C dX7_tellBefore_24 (by decide) rfl ?_
  obtain ⟨nn, h⟩ := h
  exact zm_sub [5, 6, 4, 3, 2, 1, 0] rfl (vl_X7_tellBefore_26 C hr hk0  nn _ _ _ _ _ _ _ h)
abbrev rm_X7_solve : Room := { frames := 3, cells := 0, slots := 0, locals := 82 }
def wl_X7_solve_121 (k0 : Nat) (k1 : Nat) (Q : MU → Prop) : Nat → Int32 → Int32 → MU → Prop
  | 0, _, _, _ => False
  | n + 1, x2, x3, u => ((x2 ≤ x3) → Q u) ∧ ((¬ x2 ≤ x3) → (((336 : Int32) ≤ x3) → Q u) ∧ ((¬ (336 : Int32) ≤ x3) → w_X9_at (k0 + 2) u x3 (fun r_3 => w_X1_waysBack k1 u r_3 (fun r_5 => w_X7_tellBefore k0 r_3 r_5 x2 u (fun r_7 u_8 => ∀ x3_9, x3_9 = x3 + (1 : Int32) → wl_X7_solve_121  k0 k1 Q n r_7 x3_9 u_8)))))
set_option maxHeartbeats 4000000 in
set_option maxRecDepth 100000 in
theorem vl_X7_solve_121 {p : Program} {l : Launch} {e : Env} {s : State} {m : MethodId} {args : Array Value} {below : List Frame} {meth : Method} {c : Code} {g : GE} {W : MU × ((Nat → Int64) × (Nat → UInt64))} {k0 : Nat} {k1 : Nat} {Q : MU → Prop} (C : zCx p l s m args meth c g RX7 cX7_solve 6) (hr : meth.sig.returnType = (Option.none : Option Jvm.ClassFile.FieldType)) (hk0 : zkd k0 = 9) (hk1 : zkd k1 = 3) : ∀ (n : Nat) (x2 : Int32) (x3 : Int32) (u : MU) , wl_X7_solve_121  k0 k1 Q n x2 x3 u → WM p l e rm_X7_solve s m args below meth c g 6 0 0 (MQ below (zQv g (zPxv W Q)) args s 0 0 (zA g)) 121 [(0, .ref (g.2.2.1 k0)), (1, .ref (g.2.2.1 k1)), (2, .int x2), (3, .int x3)] [] (u, W) := by
  intro n
  induction n with
  | zero => intro _ _ _ h; exact h.elim
  | succ n ih =>
    intro x2 x3 u h
    unfold wl_X7_solve_121 at h
    refine zm_iload_n C dX7_solve_121 rfl 3 rfl ?_
    refine zm_iload_n C dX7_solve_122 rfl 2 rfl ?_
    refine zm_icmp_ge (tgt := 163) C dX7_solve_123 (by decide) (fun hc_1 => ?_) (fun hc_1 => ?_)
    · have h := h.1 hc_1
      exact zm_vret C hr dX7_solve_163 ⟨_, rfl, h⟩
    · have h := h.2 hc_1
      refine zm_iload_n C dX7_solve_126 rfl 3 rfl ?_
      refine zm_sipush (v := 336) C dX7_solve_127 (by decide) ?_
      refine zm_icmp_ge (tgt := 163) C dX7_solve_130 (by decide) (fun hc_2 => ?_) (fun hc_2 => ?_)
      · have h := h.1 hc_2
        exact zm_vret C hr dX7_solve_163 ⟨_, rfl, h⟩
      · have h := h.2 hc_2
        refine zm_aload_n C dX7_solve_133 rfl 0 rfl ?_
        refine gf_RX7_19 (k1 := (k0 + 2)) C hk0 rfl dX7_solve_134 ?_
        refine zm_iload_n C dX7_solve_137 rfl 3 rfl ?_
        refine zm_ci (zr_SN (As := [.ref (g.2.2.1 (k0 + 2)), .int x3]) (rest := []) C (c_X9_at l g u W (k0 + 2) (zk9_2 hk0) x3 h) wd_610 wd_473 wd_1 wd_474 hz_X9_at rfl rfl ⟨by decide, by decide⟩ ⟨by decide, by decide⟩ rfl rfl (Nat.le_of_ble_eq_true rfl) dX7_solve_138) (fun r_3 M1 hq => ?_)
        obtain ⟨rfl, h⟩ := hq
        refine zm_istore (lv' := [(4, .int r_3), (0, .ref (g.2.2.1 k0)), (1, .ref (g.2.2.1 k1)), (2, .int x2), (3, .int x3)]) C dX7_solve_141 (by decide) rfl ?_
        refine zm_aload_n C dX7_solve_143 rfl 1 rfl ?_
        refine zm_iload C dX7_solve_144 0 rfl ?_
        refine zm_aload_n C dX7_solve_146 rfl 2 rfl ?_
        refine zm_iload C dX7_solve_147 0 rfl ?_
        refine zm_cl (zr_V (As := [.int r_3]) (rest := [.int r_3, .ref (g.2.2.1 k0)]) C (c_X1_waysBack l g u W k1 hk1 r_3 h) wd_643 wd_644 wd_645 wd_3 wd_646 hy_X1_waysBack rfl rfl ⟨by decide, by decide⟩ ⟨by decide, by decide⟩ (ci := 1) (zkd_lt hk1 (by decide)) (zCell_k hk1) rfl rfl rfl rfl (Nat.le_of_ble_eq_true rfl) dX7_solve_149) (fun r_5 M1 hq => ?_)
        obtain ⟨rfl, h⟩ := hq
        refine zm_iload_n C dX7_solve_152 rfl 3 rfl ?_
        refine zm_ci (zr_V (As := [.int r_3, .long r_5, .int x2]) (rest := []) C (c_X7_tellBefore l g u W k0 hk0 r_3 r_5 x2 h) wd_651 wd_653 wp_15 wd_6 wd_654 hy_X7_tellBefore rfl rfl ⟨by decide, by decide⟩ ⟨by decide, by decide⟩ (ci := 7) (zkd_lt hk0 (by decide)) (zCell_k hk0) rfl rfl rfl rfl (Nat.le_of_ble_eq_true rfl) dX7_solve_153) (fun r_7 M1 hq => ?_)
        obtain ⟨u_8, rfl, h⟩ := hq
        refine zm_istore_n (lv' := [(2, .int r_7), (4, .int r_3), (0, .ref (g.2.2.1 k0)), (1, .ref (g.2.2.1 k1)), (3, .int x3)]) C dX7_solve_156 rfl (by decide) rfl ?_
        obtain ⟨x3_9, hx3_9⟩ : ∃ z, z = x3 + (1 : Int32) := ⟨_, rfl⟩
        have h := h x3_9 hx3_9
        refine zm_iinc (v := x3_9) (lv' := [(3, .int x3_9), (2, .int r_7), (4, .int r_3), (0, .ref (g.2.2.1 k0)), (1, .ref (g.2.2.1 k1))]) C dX7_solve_157 4 rfl (by rw [hx3_9]; rfl) (by decide) rfl ?_
        refine zm_goto (tgt := 121) C dX7_solve_160 (by decide) ?_
        exact zm_sub [3, 4, 1, 0] rfl (ih _ _ _ h)
def wb_X7_solve_113 (L36 : Int32 → Int32 → MU → Prop) (k0 : Nat) (k1 : Nat) (Q : MU → Prop) (x2 : Int32) (x3 : Int32) (u : MU) : Prop := ∀ x3_1, x3_1 = x3 + (1 : Int32) → L36 x2 x3_1 u
set_option maxHeartbeats 4000000 in
set_option maxRecDepth 100000 in
theorem vb_X7_solve_113 {p : Program} {l : Launch} {e : Env} {s : State} {m : MethodId} {args : Array Value} {below : List Frame} {meth : Method} {c : Code} {g : GE} {W : MU × ((Nat → Int64) × (Nat → UInt64))} {k0 : Nat} {k1 : Nat} {Q : MU → Prop} (C : zCx p l s m args meth c g RX7 cX7_solve 6) (hr : meth.sig.returnType = (Option.none : Option Jvm.ClassFile.FieldType)) (hk0 : zkd k0 = 9) (hk1 : zkd k1 = 3) {L36 : Int32 → Int32 → MU → Prop} (hL36 : ∀ (x2 : Int32) (x3 : Int32) (u : MU), L36 x2 x3 u → WM p l e rm_X7_solve s m args below meth c g 6 0 0 (MQ below (zQv g (zPxv W Q)) args s 0 0 (zA g)) 36 [(0, .ref (g.2.2.1 k0)), (1, .ref (g.2.2.1 k1)), (2, .int x2), (3, .int x3)] [] (u, W)) (x2 : Int32) (x3 : Int32) (u : MU) (h : wb_X7_solve_113 L36 k0 k1 Q x2 x3 u) : WM p l e rm_X7_solve s m args below meth c g 6 0 0 (MQ below (zQv g (zPxv W Q)) args s 0 0 (zA g)) 113 [(0, .ref (g.2.2.1 k0)), (1, .ref (g.2.2.1 k1)), (2, .int x2), (3, .int x3)] [] (u, W) := by
  unfold wb_X7_solve_113 at h
  obtain ⟨x3_1, hx3_1⟩ : ∃ z, z = x3 + (1 : Int32) := ⟨_, rfl⟩
  have h := h x3_1 hx3_1
  refine zm_iinc (v := x3_1) (lv' := [(3, .int x3_1), (0, .ref (g.2.2.1 k0)), (1, .ref (g.2.2.1 k1)), (2, .int x2)]) C dX7_solve_113 3 rfl (by rw [hx3_1]; rfl) (by decide) rfl ?_
  refine zm_goto (tgt := 36) C dX7_solve_116 (by decide) ?_
  exact zm_sub [1, 2, 3, 0] rfl (hL36 _ _ _ h)
def wb_X7_solve_92 (L36 : Int32 → Int32 → MU → Prop) (k0 : Nat) (k1 : Nat) (Q : MU → Prop) (x2 : Int32) (x3 : Int32) (x4 : Int32) (x5 : Int32) (s0 : Int32) (s1 : Int32) (u : MU) : Prop := w_X9_put (k0 + 3) s1 s0 u (fun u_2 => ((¬ x5 = 0) → wb_X7_solve_113 L36 k0 k1 Q x2 x3 u_2) ∧ ((x5 = 0) → w_X9_put (k0 + 2) x2 x4 u_2 (fun u_5 => ∀ x2_6, x2_6 = x2 + (1 : Int32) → wb_X7_solve_113 L36 k0 k1 Q x2_6 x3 u_5)))
set_option maxHeartbeats 4000000 in
set_option maxRecDepth 100000 in
theorem vb_X7_solve_92 {p : Program} {l : Launch} {e : Env} {s : State} {m : MethodId} {args : Array Value} {below : List Frame} {meth : Method} {c : Code} {g : GE} {W : MU × ((Nat → Int64) × (Nat → UInt64))} {k0 : Nat} {k1 : Nat} {Q : MU → Prop} (C : zCx p l s m args meth c g RX7 cX7_solve 6) (hr : meth.sig.returnType = (Option.none : Option Jvm.ClassFile.FieldType)) (hk0 : zkd k0 = 9) (hk1 : zkd k1 = 3) {L36 : Int32 → Int32 → MU → Prop} (hL36 : ∀ (x2 : Int32) (x3 : Int32) (u : MU), L36 x2 x3 u → WM p l e rm_X7_solve s m args below meth c g 6 0 0 (MQ below (zQv g (zPxv W Q)) args s 0 0 (zA g)) 36 [(0, .ref (g.2.2.1 k0)), (1, .ref (g.2.2.1 k1)), (2, .int x2), (3, .int x3)] [] (u, W)) (x2 : Int32) (x3 : Int32) (x4 : Int32) (x5 : Int32) (s0 : Int32) (s1 : Int32) (u : MU) (h : wb_X7_solve_92 L36 k0 k1 Q x2 x3 x4 x5 s0 s1 u) : WM p l e rm_X7_solve s m args below meth c g 6 0 0 (MQ below (zQv g (zPxv W Q)) args s 0 0 (zA g)) 92 [(0, .ref (g.2.2.1 k0)), (1, .ref (g.2.2.1 k1)), (2, .int x2), (3, .int x3), (4, .int x4), (5, .int x5)] [.int s0, .int s1, .ref (g.2.2.1 (k0 + 3))] (u, W) := by
  unfold wb_X7_solve_92 at h
  refine zm_cv (zr_SN (As := [.ref (g.2.2.1 (k0 + 3)), .int s1, .int s0]) (rest := []) C (c_X9_put l g u W (k0 + 3) (zk9_3 hk0) s1 s0 h) wd_642 wd_480 wd_1 wd_481 hz_X9_put rfl rfl ⟨by decide, by decide⟩ ⟨by decide, by decide⟩ rfl rfl (Nat.le_of_ble_eq_true rfl) dX7_solve_92) (fun M1 hq => ?_)
  obtain ⟨u_2, rfl, h⟩ := hq
  refine zm_iload C dX7_solve_95 5 rfl ?_
  refine zm_if_ne (tgt := 113) C dX7_solve_97 (by decide) (fun hc_3 => ?_) (fun hc_3 => ?_)
  · have h := h.1 hc_3
    exact zm_sub [0, 1, 2, 3] rfl (vb_X7_solve_113 C hr hk0 hk1 hL36 _ _ _ h)
  · have h := h.2 hc_3
    refine zm_aload_n C dX7_solve_100 rfl 0 rfl ?_
    refine gf_RX7_19 (k1 := (k0 + 2)) C hk0 rfl dX7_solve_101 ?_
    refine zm_iload_n C dX7_solve_104 rfl 2 rfl ?_
    refine zm_iload C dX7_solve_105 4 rfl ?_
    refine zm_cv (zr_SN (As := [.ref (g.2.2.1 (k0 + 2)), .int x2, .int x4]) (rest := []) C (c_X9_put l g u_2 W (k0 + 2) (zk9_2 hk0) x2 x4 h) wd_642 wd_480 wd_1 wd_481 hz_X9_put rfl rfl ⟨by decide, by decide⟩ ⟨by decide, by decide⟩ rfl rfl (Nat.le_of_ble_eq_true rfl) dX7_solve_107) (fun M1 hq => ?_)
    obtain ⟨u_5, rfl, h⟩ := hq
    obtain ⟨x2_6, hx2_6⟩ : ∃ z, z = x2 + (1 : Int32) := ⟨_, rfl⟩
    have h := h x2_6 hx2_6
    refine zm_iinc (v := x2_6) (lv' := [(2, .int x2_6), (0, .ref (g.2.2.1 k0)), (1, .ref (g.2.2.1 k1)), (3, .int x3), (4, .int x4), (5, .int x5)]) C dX7_solve_110 2 rfl (by rw [hx2_6]; rfl) (by decide) rfl ?_
    exact zm_sub [1, 2, 0, 3] rfl (vb_X7_solve_113 C hr hk0 hk1 hL36 _ _ _ h)
def wl_X7_solve_36 (k0 : Nat) (k1 : Nat) (Q : MU → Prop) : Nat → Int32 → Int32 → MU → Prop
  | 0, _, _, _ => False
  | n + 1, x2, x3, u => (((u k0 0) ≤ x3) → ∃ nn, wl_X7_solve_121  k0 k1 Q nn x2 (0 : Int32) u) ∧ ((¬ (u k0 0) ≤ x3) → w_X9_at (k0 + 1) u x3 (fun r_2 => w_X1_movesOf k1 u r_2 (fun r_4 => w_J13_bitCount_95d88 r_4 (fun r_6 => w_X9_put (k0 + 4) r_2 r_6 u (fun u_9 => ((¬ r_6 = 0) → wb_X7_solve_92 (fun x2' x3' u' => wl_X7_solve_36 k0 k1 Q n x2' x3' u') k0 k1 Q x2 x3 r_2 r_6 (-1 : Int32) r_2 u_9) ∧ ((r_6 = 0) → wb_X7_solve_92 (fun x2' x3' u' => wl_X7_solve_36 k0 k1 Q n x2' x3' u') k0 k1 Q x2 x3 r_2 r_6 (0 : Int32) r_2 u_9))))))
set_option maxHeartbeats 4000000 in
set_option maxRecDepth 100000 in
theorem vl_X7_solve_36 {p : Program} {l : Launch} {e : Env} {s : State} {m : MethodId} {args : Array Value} {below : List Frame} {meth : Method} {c : Code} {g : GE} {W : MU × ((Nat → Int64) × (Nat → UInt64))} {k0 : Nat} {k1 : Nat} {Q : MU → Prop} (C : zCx p l s m args meth c g RX7 cX7_solve 6) (hr : meth.sig.returnType = (Option.none : Option Jvm.ClassFile.FieldType)) (hk0 : zkd k0 = 9) (hk1 : zkd k1 = 3) : ∀ (n : Nat) (x2 : Int32) (x3 : Int32) (u : MU) , wl_X7_solve_36  k0 k1 Q n x2 x3 u → WM p l e rm_X7_solve s m args below meth c g 6 0 0 (MQ below (zQv g (zPxv W Q)) args s 0 0 (zA g)) 36 [(0, .ref (g.2.2.1 k0)), (1, .ref (g.2.2.1 k1)), (2, .int x2), (3, .int x3)] [] (u, W) := by
  intro n
  induction n with
  | zero => intro _ _ _ h; exact h.elim
  | succ n ih =>
    intro x2 x3 u h
    unfold wl_X7_solve_36 at h
    refine zm_iload_n C dX7_solve_36 rfl 3 rfl ?_
    refine zm_aload_n C dX7_solve_37 rfl 0 rfl ?_
    refine gf_RX7_37 C hk0 dX7_solve_38 ?_
    refine zm_icmp_ge (tgt := 119) C dX7_solve_41 (by decide) (fun hc_1 => ?_) (fun hc_1 => ?_)
    · have h := h.1 hc_1
      refine zm_iconst (v := 0) C dX7_solve_119 (by decide) ?_
      refine zm_istore_n (lv' := [(3, .int (0 : Int32)), (0, .ref (g.2.2.1 k0)), (1, .ref (g.2.2.1 k1)), (2, .int x2)]) C dX7_solve_120 rfl (by decide) rfl ?_
      obtain ⟨nn, h⟩ := h
      exact zm_sub [1, 2, 3, 0] rfl (vl_X7_solve_121 C hr hk0 hk1  nn _ _ _ h)
    · have h := h.2 hc_1
      refine zm_aload_n C dX7_solve_44 rfl 0 rfl ?_
      refine gf_RX7_15 (k1 := (k0 + 1)) C hk0 rfl dX7_solve_45 ?_
      refine zm_iload_n C dX7_solve_48 rfl 3 rfl ?_
      refine zm_ci (zr_SN (As := [.ref (g.2.2.1 (k0 + 1)), .int x3]) (rest := []) C (c_X9_at l g u W (k0 + 1) (zk9_1 hk0) x3 h) wd_610 wd_473 wd_1 wd_474 hz_X9_at rfl rfl ⟨by decide, by decide⟩ ⟨by decide, by decide⟩ rfl rfl (Nat.le_of_ble_eq_true rfl) dX7_solve_49) (fun r_2 M1 hq => ?_)
      obtain ⟨rfl, h⟩ := hq
      refine zm_istore (lv' := [(4, .int r_2), (0, .ref (g.2.2.1 k0)), (1, .ref (g.2.2.1 k1)), (2, .int x2), (3, .int x3)]) C dX7_solve_52 (by decide) rfl ?_
      refine zm_aload_n C dX7_solve_54 rfl 2 rfl ?_
      refine zm_iload C dX7_solve_55 0 rfl ?_
      refine zm_cl (zr_V (As := [.int r_2]) (rest := []) C (c_X1_movesOf l g u W k1 hk1 r_2 h) wd_611 wd_612 wd_613 wd_3 wd_614 hy_X1_movesOf rfl rfl ⟨by decide, by decide⟩ ⟨by decide, by decide⟩ (ci := 1) (zkd_lt hk1 (by decide)) (zCell_k hk1) rfl rfl rfl rfl (Nat.le_of_ble_eq_true rfl) dX7_solve_57) (fun r_4 M1 hq => ?_)
      obtain ⟨rfl, h⟩ := hq
      refine zm_ci (zr_Sx (As := [.long r_4]) (rest := []) C (c_J13_bitCount_95d88 l g (u, W) r_4 h) wd_636 wd_637 wd_21 wd_638 hz_J13_bitCount_95d88 rfl rfl ⟨by decide, by decide⟩ ⟨by decide, by decide⟩ rfl rfl (Nat.le_of_ble_eq_true rfl) dX7_solve_60) (fun r_6 M1 hq => ?_)
      obtain ⟨rfl, h⟩ := hq
      refine zm_istore (lv' := [(5, .int r_6), (4, .int r_2), (0, .ref (g.2.2.1 k0)), (1, .ref (g.2.2.1 k1)), (2, .int x2), (3, .int x3)]) C dX7_solve_63 (by decide) rfl ?_
      refine zm_aload_n C dX7_solve_65 rfl 2 rfl ?_
      refine gf_RX7_25 (k1 := (k0 + 4)) C hk0 rfl dX7_solve_66 ?_
      refine zm_iload C dX7_solve_69 1 rfl ?_
      refine zm_iload C dX7_solve_71 0 rfl ?_
      refine zm_cv (zr_SN (As := [.ref (g.2.2.1 (k0 + 4)), .int r_2, .int r_6]) (rest := []) C (c_X9_put l g u W (k0 + 4) (zk9_4 hk0) r_2 r_6 h) wd_642 wd_480 wd_1 wd_481 hz_X9_put rfl rfl ⟨by decide, by decide⟩ ⟨by decide, by decide⟩ rfl rfl (Nat.le_of_ble_eq_true rfl) dX7_solve_73) (fun M1 hq => ?_)
      obtain ⟨u_9, rfl, h⟩ := hq
      refine zm_aload_n C dX7_solve_76 rfl 2 rfl ?_
      refine gf_RX7_22 (k1 := (k0 + 3)) C hk0 rfl dX7_solve_77 ?_
      refine zm_iload C dX7_solve_80 1 rfl ?_
      refine zm_iload C dX7_solve_82 0 rfl ?_
      refine zm_if_ne (tgt := 91) C dX7_solve_84 (by decide) (fun hc_10 => ?_) (fun hc_10 => ?_)
      · have h := h.1 hc_10
        refine zm_iconst (v := -1) C dX7_solve_91 (by decide) ?_
        exact zm_sub [2, 3, 4, 5, 1, 0] rfl (vb_X7_solve_92 C hr hk0 hk1 ih _ _ _ _ _ _ _ h)
      · have h := h.2 hc_10
        refine zm_iconst (v := 0) C dX7_solve_87 (by decide) ?_
        refine zm_goto (tgt := 92) C dX7_solve_88 (by decide) ?_
        exact zm_sub [2, 3, 4, 5, 1, 0] rfl (vb_X7_solve_92 C hr hk0 hk1 ih _ _ _ _ _ _ _ h)
def w_X7_solve (k0 : Nat) (k1 : Nat) (u : MU) (Q : MU → Prop) : Prop := ((¬ (u k0 1) = (u k1 4)) → (∀ u_2, u_2 = u2 u k0 1 (u k1 4) → w_X1_listPositions k1 (k0 + 1) u_2 (fun r_3 u_4 => (∀ u_5, u_5 = u2 u_4 k0 0 r_3 → ∃ nn, wl_X7_solve_36  k0 k1 Q nn (0 : Int32) (0 : Int32) u_5)))) ∧ (((u k0 1) = (u k1 4)) → Q u)
set_option maxHeartbeats 4000000 in
set_option maxRecDepth 100000 in
theorem c_X7_solve (l : Launch) (g : GE) (u : MU) (W : MU × ((Nat → Int64) × (Nat → UInt64))) (k0 : Nat) (k1 : Nat) (hk0 : zkd k0 = 9) (hk1 : zkd k1 = 3) {Q : MU → Prop} (h : w_X7_solve k0 k1 u Q) : Met l yX7_solve (.code yX7_solve cX7_solve 6 (Option.none : Option Jvm.ClassFile.FieldType) :: TB) rm_X7_solve (zPc g (u, W) [.ref (g.2.2.1 k0), .ref (g.2.2.1 k1)]) (zQv g (zPxv W Q)) 0 0 (zA g) := by
  unfold w_X7_solve at h
  refine zMet (own := RX7) [(0, .ref (g.2.2.1 k0)), (1, .ref (g.2.2.1 k1))] (by decide +kernel) rfl (Nat.le_of_ble_eq_true rfl) rfl (fun p e s m args below meth c C hr => ?_)
  refine zm_aload_n C dX7_solve_0 rfl 0 rfl ?_
  refine gf_RX7_9 C hk0 dX7_solve_1 ?_
  refine zm_aload_n C dX7_solve_4 rfl 1 rfl ?_
  refine gf_RX7_28 C hk1 dX7_solve_5 ?_
  refine zm_icmp_ne (tgt := 12) C dX7_solve_8 (by decide) (fun hc_1 => ?_) (fun hc_1 => ?_)
  · have h := h.1 hc_1
    refine zm_aload_n C dX7_solve_12 rfl 0 rfl ?_
    refine zm_aload_n C dX7_solve_13 rfl 1 rfl ?_
    refine gf_RX7_28 C hk1 dX7_solve_14 ?_
    refine pf_RX7_9 C hk0  dX7_solve_17 (fun u_2 hu_2 => ?_)
    have h := h u_2 hu_2
    refine zm_aload_n C dX7_solve_20 rfl 0 rfl ?_
    refine zm_aload_n C dX7_solve_21 rfl 1 rfl ?_
    refine zm_aload_n C dX7_solve_22 rfl 0 rfl ?_
    refine gf_RX7_15 (k1 := (k0 + 1)) C hk0 rfl dX7_solve_23 ?_
    refine zm_ci (zr_V (As := [.ref (g.2.2.1 (k0 + 1))]) (rest := [.ref (g.2.2.1 k0)]) C (c_X1_listPositions l g u_2 W k1 (k0 + 1) hk1 (zk9_1 hk0) h) wd_598 wd_599 wd_600 wd_3 wd_601 hy_X1_listPositions rfl rfl ⟨by decide, by decide⟩ ⟨by decide, by decide⟩ (ci := 1) (zkd_lt hk1 (by decide)) (zCell_k hk1) rfl rfl rfl rfl (Nat.le_of_ble_eq_true rfl) dX7_solve_26) (fun r_3 M1 hq => ?_)
    obtain ⟨u_4, rfl, h⟩ := hq
    refine pf_RX7_37 C hk0  dX7_solve_29 (fun u_5 hu_5 => ?_)
    have h := h u_5 hu_5
    refine zm_iconst (v := 0) C dX7_solve_32 (by decide) ?_
    refine zm_istore_n (lv' := [(2, .int (0 : Int32)), (0, .ref (g.2.2.1 k0)), (1, .ref (g.2.2.1 k1))]) C dX7_solve_33 rfl (by decide) rfl ?_
    refine zm_iconst (v := 0) C dX7_solve_34 (by decide) ?_
    refine zm_istore_n (lv' := [(3, .int (0 : Int32)), (2, .int (0 : Int32)), (0, .ref (g.2.2.1 k0)), (1, .ref (g.2.2.1 k1))]) C dX7_solve_35 rfl (by decide) rfl ?_
    obtain ⟨nn, h⟩ := h
    exact zm_sub [2, 3, 1, 0] rfl (vl_X7_solve_36 C hr hk0 hk1  nn _ _ _ h)
  · have h := h.2 hc_1
    exact zm_vret C hr dX7_solve_11 ⟨_, rfl, h⟩
abbrev rm_X7_positionAt : Room := { frames := 1, cells := 0, slots := 0, locals := 21 }
def w_X7_positionAt (k0 : Nat) (u : MU) (x1 : Int32) (Q : Int32 → Prop) : Prop := w_X9_at (k0 + 1) u x1 (fun r_1 => Q r_1)
set_option maxHeartbeats 4000000 in
set_option maxRecDepth 100000 in
theorem c_X7_positionAt (l : Launch) (g : GE) (u : MU) (W : MU × ((Nat → Int64) × (Nat → UInt64))) (k0 : Nat) (hk0 : zkd k0 = 9) (x1 : Int32) {Q : Int32 → Prop} (h : w_X7_positionAt k0 u x1 Q) : Met l yX7_positionAt (.code yX7_positionAt cX7_positionAt 2 (Option.some Jvm.ClassFile.FieldType.int) :: TB) rm_X7_positionAt (zPc g (u, W) [.ref (g.2.2.1 k0), .int x1]) (zQi g (zP0 (u, W) Q)) 0 0 (zA g) := by
  unfold w_X7_positionAt at h
  refine zMet (own := RX7) [(0, .ref (g.2.2.1 k0)), (1, .int x1)] (by decide +kernel) rfl (Nat.le_of_ble_eq_true rfl) rfl (fun p e s m args below meth c C hr => ?_)
  refine zm_aload_n C dX7_positionAt_0 rfl 0 rfl ?_
  refine gf_RX7_15 (k1 := (k0 + 1)) C hk0 rfl dX7_positionAt_1 ?_
  refine zm_iload_n C dX7_positionAt_4 rfl 1 rfl ?_
  refine zm_ci (zr_SN (As := [.ref (g.2.2.1 (k0 + 1)), .int x1]) (rest := []) C (c_X9_at l g u W (k0 + 1) (zk9_1 hk0) x1 h) wd_610 wd_473 wd_1 wd_474 hz_X9_at rfl rfl ⟨by decide, by decide⟩ ⟨by decide, by decide⟩ rfl rfl (Nat.le_of_ble_eq_true rfl) dX7_positionAt_5) (fun r_1 M1 hq => ?_)
  obtain ⟨rfl, h⟩ := hq
  exact zm_iret C hr dX7_positionAt_8 ⟨rfl, h⟩
abbrev rm_X7_inMoves : Room := { frames := 1, cells := 0, slots := 0, locals := 21 }
def w_X7_inMoves (k0 : Nat) (u : MU) (x1 : Int32) (Q : Int32 → Prop) : Prop := w_X9_at (k0 + 3) u x1 (fun r_1 => Q r_1)
set_option maxHeartbeats 4000000 in
set_option maxRecDepth 100000 in
theorem c_X7_inMoves (l : Launch) (g : GE) (u : MU) (W : MU × ((Nat → Int64) × (Nat → UInt64))) (k0 : Nat) (hk0 : zkd k0 = 9) (x1 : Int32) {Q : Int32 → Prop} (h : w_X7_inMoves k0 u x1 Q) : Met l yX7_inMoves (.code yX7_inMoves cX7_inMoves 2 (Option.some Jvm.ClassFile.FieldType.int) :: TB) rm_X7_inMoves (zPc g (u, W) [.ref (g.2.2.1 k0), .int x1]) (zQi g (zP0 (u, W) Q)) 0 0 (zA g) := by
  unfold w_X7_inMoves at h
  refine zMet (own := RX7) [(0, .ref (g.2.2.1 k0)), (1, .int x1)] (by decide +kernel) rfl (Nat.le_of_ble_eq_true rfl) rfl (fun p e s m args below meth c C hr => ?_)
  refine zm_aload_n C dX7_inMoves_0 rfl 0 rfl ?_
  refine gf_RX7_22 (k1 := (k0 + 3)) C hk0 rfl dX7_inMoves_1 ?_
  refine zm_iload_n C dX7_inMoves_4 rfl 1 rfl ?_
  refine zm_ci (zr_SN (As := [.ref (g.2.2.1 (k0 + 3)), .int x1]) (rest := []) C (c_X9_at l g u W (k0 + 3) (zk9_3 hk0) x1 h) wd_610 wd_473 wd_1 wd_474 hz_X9_at rfl rfl ⟨by decide, by decide⟩ ⟨by decide, by decide⟩ rfl rfl (Nat.le_of_ble_eq_true rfl) dX7_inMoves_5) (fun r_1 M1 hq => ?_)
  obtain ⟨rfl, h⟩ := hq
  exact zm_iret C hr dX7_inMoves_8 ⟨rfl, h⟩
abbrev rm_X7_outcomeOf : Room := { frames := 1, cells := 0, slots := 0, locals := 21 }
def w_X7_outcomeOf (k0 : Nat) (u : MU) (x1 : Int32) (Q : Int32 → Prop) : Prop := w_X9_at (k0 + 3) u x1 (fun r_1 => ((0 ≤ r_1) → ((¬ (r_1 - r_1 / (2 : Int32) * (2 : Int32)) = 0) → Q (1 : Int32)) ∧ (((r_1 - r_1 / (2 : Int32) * (2 : Int32)) = 0) → Q (2 : Int32))) ∧ ((¬ 0 ≤ r_1) → Q (0 : Int32)))
set_option maxHeartbeats 4000000 in
set_option maxRecDepth 100000 in
theorem c_X7_outcomeOf (l : Launch) (g : GE) (u : MU) (W : MU × ((Nat → Int64) × (Nat → UInt64))) (k0 : Nat) (hk0 : zkd k0 = 9) (x1 : Int32) {Q : Int32 → Prop} (h : w_X7_outcomeOf k0 u x1 Q) : Met l yX7_outcomeOf (.code yX7_outcomeOf cX7_outcomeOf 3 (Option.some Jvm.ClassFile.FieldType.int) :: TB) rm_X7_outcomeOf (zPc g (u, W) [.ref (g.2.2.1 k0), .int x1]) (zQi g (zP0 (u, W) Q)) 0 0 (zA g) := by
  unfold w_X7_outcomeOf at h
  refine zMet (own := RX7) [(0, .ref (g.2.2.1 k0)), (1, .int x1)] (by decide +kernel) rfl (Nat.le_of_ble_eq_true rfl) rfl (fun p e s m args below meth c C hr => ?_)
  refine zm_aload_n C dX7_outcomeOf_0 rfl 0 rfl ?_
  refine gf_RX7_22 (k1 := (k0 + 3)) C hk0 rfl dX7_outcomeOf_1 ?_
  refine zm_iload_n C dX7_outcomeOf_4 rfl 1 rfl ?_
  refine zm_ci (zr_SN (As := [.ref (g.2.2.1 (k0 + 3)), .int x1]) (rest := []) C (c_X9_at l g u W (k0 + 3) (zk9_3 hk0) x1 h) wd_610 wd_473 wd_1 wd_474 hz_X9_at rfl rfl ⟨by decide, by decide⟩ ⟨by decide, by decide⟩ rfl rfl (Nat.le_of_ble_eq_true rfl) dX7_outcomeOf_5) (fun r_1 M1 hq => ?_)
  obtain ⟨rfl, h⟩ := hq
  refine zm_istore_n (lv' := [(2, .int r_1), (0, .ref (g.2.2.1 k0)), (1, .int x1)]) C dX7_outcomeOf_8 rfl (by decide) rfl ?_
  refine zm_iload_n C dX7_outcomeOf_9 rfl 0 rfl ?_
  refine zm_if_ge (tgt := 15) C dX7_outcomeOf_10 (by decide) (fun hc_3 => ?_) (fun hc_3 => ?_)
  · have h := h.1 hc_3
    refine zm_iload_n C dX7_outcomeOf_15 rfl 0 rfl ?_
    refine zm_iconst (v := 2) C dX7_outcomeOf_16 (by decide) ?_
    refine zm_irem C dX7_outcomeOf_17 (by decide) ?_
    refine zm_if_ne (tgt := 25) C dX7_outcomeOf_18 (by decide) (fun hc_4 => ?_) (fun hc_4 => ?_)
    · have h := h.1 hc_4
      refine zm_iconst (v := 1) C dX7_outcomeOf_25 (by decide) ?_
      exact zm_iret C hr dX7_outcomeOf_26 ⟨rfl, h⟩
    · have h := h.2 hc_4
      refine zm_iconst (v := 2) C dX7_outcomeOf_21 (by decide) ?_
      refine zm_goto (tgt := 26) C dX7_outcomeOf_22 (by decide) ?_
      exact zm_iret C hr dX7_outcomeOf_26 ⟨rfl, h⟩
  · have h := h.2 hc_3
    refine zm_iconst (v := 0) C dX7_outcomeOf_13 (by decide) ?_
    exact zm_iret C hr dX7_outcomeOf_14 ⟨rfl, h⟩
abbrev rm_X7_isFoxWinning : Room := { frames := 2, cells := 0, slots := 0, locals := 43 }
def wb_X7_isFoxWinning_17 (k0 : Nat) (u : MU) (Q : Int32 → Prop) (s0 : Int32) (s1 : Int32) : Prop := ((¬ s1 = s0) → Q (0 : Int32)) ∧ ((s1 = s0) → Q (1 : Int32))
set_option maxHeartbeats 4000000 in
set_option maxRecDepth 100000 in
theorem vb_X7_isFoxWinning_17 {p : Program} {l : Launch} {e : Env} {s : State} {m : MethodId} {args : Array Value} {below : List Frame} {meth : Method} {c : Code} {g : GE} {W : MU × ((Nat → Int64) × (Nat → UInt64))} {u : MU} {k0 : Nat} {Q : Int32 → Prop} (C : zCx p l s m args meth c g RX7 cX7_isFoxWinning 2) (hr : meth.sig.returnType = (Option.some Jvm.ClassFile.FieldType.boolean)) (hk0 : zkd k0 = 9) (s0 : Int32) (s1 : Int32) (h : wb_X7_isFoxWinning_17  k0 u Q s0 s1) : WM p l e rm_X7_isFoxWinning s m args below meth c g 2 0 0 (MQ below (zQi g (zP0 (u, W) Q)) args s 0 0 (zA g)) 17 [] [.int s0, .int s1] (u, W) := by
  unfold wb_X7_isFoxWinning_17 at h
  refine zm_icmp_ne (tgt := 24) C dX7_isFoxWinning_17 (by decide) (fun hc_1 => ?_) (fun hc_1 => ?_)
  · have h := h.1 hc_1
    refine zm_iconst (v := 0) C dX7_isFoxWinning_24 (by decide) ?_
    exact zm_zret (ty := .boolean) C hr (by decide) dX7_isFoxWinning_25 ⟨rfl, h⟩
  · have h := h.2 hc_1
    refine zm_iconst (v := 1) C dX7_isFoxWinning_20 (by decide) ?_
    refine zm_goto (tgt := 25) C dX7_isFoxWinning_21 (by decide) ?_
    exact zm_zret (ty := .boolean) C hr (by decide) dX7_isFoxWinning_25 ⟨rfl, h⟩
def w_X7_isFoxWinning (k0 : Nat) (u : MU) (x1 : Int32) (Q : Int32 → Prop) : Prop := w_X7_outcomeOf k0 u x1 (fun r_1 => w_X9_turnOf x1 (fun r_3 => ((¬ r_3 = 0) → wb_X7_isFoxWinning_17  k0 u Q (2 : Int32) r_1) ∧ ((r_3 = 0) → wb_X7_isFoxWinning_17  k0 u Q (1 : Int32) r_1)))
set_option maxHeartbeats 4000000 in
set_option maxRecDepth 100000 in
theorem c_X7_isFoxWinning (l : Launch) (g : GE) (u : MU) (W : MU × ((Nat → Int64) × (Nat → UInt64))) (k0 : Nat) (hk0 : zkd k0 = 9) (x1 : Int32) {Q : Int32 → Prop} (h : w_X7_isFoxWinning k0 u x1 Q) : Met l yX7_isFoxWinning (.code yX7_isFoxWinning cX7_isFoxWinning 2 (Option.some Jvm.ClassFile.FieldType.boolean) :: TB) rm_X7_isFoxWinning (zPc g (u, W) [.ref (g.2.2.1 k0), .int x1]) (zQi g (zP0 (u, W) Q)) 0 0 (zA g) := by
  unfold w_X7_isFoxWinning at h
  refine zMet (own := RX7) [(0, .ref (g.2.2.1 k0)), (1, .int x1)] (by decide +kernel) rfl (Nat.le_of_ble_eq_true rfl) rfl (fun p e s m args below meth c C hr => ?_)
  refine zm_aload_n C dX7_isFoxWinning_0 rfl 0 rfl ?_
  refine zm_iload_n C dX7_isFoxWinning_1 rfl 1 rfl ?_
  refine zm_ci (zr_V (As := [.int x1]) (rest := []) C (c_X7_outcomeOf l g u W k0 hk0 x1 h) wd_691 wd_692 wd_693 wd_6 wd_694 hy_X7_outcomeOf rfl rfl ⟨by decide, by decide⟩ ⟨by decide, by decide⟩ (ci := 7) (zkd_lt hk0 (by decide)) (zCell_k hk0) rfl rfl rfl rfl (Nat.le_of_ble_eq_true rfl) dX7_isFoxWinning_2) (fun r_1 M1 hq => ?_)
  obtain ⟨rfl, h⟩ := hq
  refine zm_iload_n C dX7_isFoxWinning_5 rfl 1 rfl ?_
  refine zm_ci (zr_SN (As := [.int x1]) (rest := [.int r_1]) C (c_X9_turnOf l g (u, W) x1 h) wd_695 wd_629 wd_1 wd_630 hz_X9_turnOf rfl rfl ⟨by decide, by decide⟩ ⟨by decide, by decide⟩ rfl rfl (Nat.le_of_ble_eq_true rfl) dX7_isFoxWinning_6) (fun r_3 M1 hq => ?_)
  obtain ⟨rfl, h⟩ := hq
  refine zm_if_ne (tgt := 16) C dX7_isFoxWinning_9 (by decide) (fun hc_5 => ?_) (fun hc_5 => ?_)
  · have h := h.1 hc_5
    refine zm_iconst (v := 2) C dX7_isFoxWinning_16 (by decide) ?_
    exact zm_sub [] rfl (vb_X7_isFoxWinning_17 C hr hk0  _ _ h)
  · have h := h.2 hc_5
    refine zm_iconst (v := 1) C dX7_isFoxWinning_12 (by decide) ?_
    refine zm_goto (tgt := 17) C dX7_isFoxWinning_13 (by decide) ?_
    exact zm_sub [] rfl (vb_X7_isFoxWinning_17 C hr hk0  _ _ h)
abbrev rm_X7_bestMove : Room := { frames := 3, cells := 0, slots := 0, locals := 65 }
def wl_X7_bestMove_40 (k0 : Nat) (k1 : Nat) (u : MU) (Q : Int32 → Prop) : Nat → Int32 → Int32 → Int64 → Int32 → Int32 → Prop
  | 0, _, _, _, _, _ => False
  | n + 1, x2, x4, x5, x7, x8 => ((x7 ≤ x8) → Q (-1 : Int32)) ∧ ((¬ x7 ≤ x8) → w_X9_firstMove x5 (fun r_2 => w_X9_withoutFirst x5 (fun r_4 => w_X9_fromOf r_2 (fun r_6 => w_X9_toOf r_2 (fun r_8 => w_X9_shifted x2 r_6 r_8 (fun r_10 => w_X9_at (k0 + 3) u r_10 (fun r_12 => ((¬ r_12 = x4) → ∀ x8_15, x8_15 = x8 + (1 : Int32) → wl_X7_bestMove_40  k0 k1 u Q n x2 x4 r_4 x7 x8_15) ∧ ((r_12 = x4) → Q r_2))))))))
set_option maxHeartbeats 4000000 in
set_option maxRecDepth 100000 in
theorem vl_X7_bestMove_40 {p : Program} {l : Launch} {e : Env} {s : State} {m : MethodId} {args : Array Value} {below : List Frame} {meth : Method} {c : Code} {g : GE} {W : MU × ((Nat → Int64) × (Nat → UInt64))} {u : MU} {k0 : Nat} {k1 : Nat} {Q : Int32 → Prop} (C : zCx p l s m args meth c g RX7 cX7_bestMove 10) (hr : meth.sig.returnType = (Option.some Jvm.ClassFile.FieldType.int)) (hk0 : zkd k0 = 9) (hk1 : zkd k1 = 3) : ∀ (n : Nat) (x2 : Int32) (x4 : Int32) (x5 : Int64) (x7 : Int32) (x8 : Int32) , wl_X7_bestMove_40  k0 k1 u Q n x2 x4 x5 x7 x8 → WM p l e rm_X7_bestMove s m args below meth c g 10 0 0 (MQ below (zQi g (zP0 (u, W) Q)) args s 0 0 (zA g)) 40 [(0, .ref (g.2.2.1 k0)), (2, .int x2), (4, .int x4), (5, .long x5), (7, .int x7), (8, .int x8)] [] (u, W) := by
  intro n
  induction n with
  | zero => intro _ _ _ _ _ h; exact h.elim
  | succ n ih =>
    intro x2 x4 x5 x7 x8 h
    unfold wl_X7_bestMove_40 at h
    refine zm_iload C dX7_bestMove_40 5 rfl ?_
    refine zm_iload C dX7_bestMove_42 4 rfl ?_
    refine zm_icmp_ge (tgt := 96) C dX7_bestMove_44 (by decide) (fun hc_1 => ?_) (fun hc_1 => ?_)
    · have h := h.1 hc_1
      refine zm_iconst (v := -1) C dX7_bestMove_96 (by decide) ?_
      exact zm_iret C hr dX7_bestMove_97 ⟨rfl, h⟩
    · have h := h.2 hc_1
      refine zm_lload C dX7_bestMove_47 3 rfl ?_
      refine zm_ci (zr_SN (As := [.long x5]) (rest := []) C (c_X9_firstMove l g (u, W) x5 h) wd_655 wd_656 wd_1 wd_657 hz_X9_firstMove rfl rfl ⟨by decide, by decide⟩ ⟨by decide, by decide⟩ rfl rfl (Nat.le_of_ble_eq_true rfl) dX7_bestMove_49) (fun r_2 M1 hq => ?_)
      obtain ⟨rfl, h⟩ := hq
      refine zm_istore (lv' := [(9, .int r_2), (0, .ref (g.2.2.1 k0)), (2, .int x2), (4, .int x4), (5, .long x5), (7, .int x7), (8, .int x8)]) C dX7_bestMove_52 (by decide) rfl ?_
      refine zm_lload C dX7_bestMove_54 4 rfl ?_
      refine zm_cl (zr_SN (As := [.long x5]) (rest := []) C (c_X9_withoutFirst l g (u, W) x5 h) wd_659 wd_660 wd_1 wd_661 hz_X9_withoutFirst rfl rfl ⟨by decide, by decide⟩ ⟨by decide, by decide⟩ rfl rfl (Nat.le_of_ble_eq_true rfl) dX7_bestMove_56) (fun r_4 M1 hq => ?_)
      obtain ⟨rfl, h⟩ := hq
      refine zm_lstore (lv' := [(5, .long r_4), (9, .int r_2), (0, .ref (g.2.2.1 k0)), (2, .int x2), (4, .int x4), (7, .int x7), (8, .int x8)]) C dX7_bestMove_59 (by decide) rfl ?_
      refine zm_aload_n C dX7_bestMove_61 rfl 2 rfl ?_
      refine gf_RX7_22 (k1 := (k0 + 3)) C hk0 rfl dX7_bestMove_62 ?_
      refine zm_iload_n C dX7_bestMove_65 rfl 3 rfl ?_
      refine zm_iload C dX7_bestMove_66 1 rfl ?_
      refine zm_ci (zr_SN (As := [.int r_2]) (rest := [.int x2, .ref (g.2.2.1 (k0 + 3))]) C (c_X9_fromOf l g (u, W) r_2 h) wd_662 wd_663 wd_1 wd_664 hz_X9_fromOf rfl rfl ⟨by decide, by decide⟩ ⟨by decide, by decide⟩ rfl rfl (Nat.le_of_ble_eq_true rfl) dX7_bestMove_68) (fun r_6 M1 hq => ?_)
      obtain ⟨rfl, h⟩ := hq
      refine zm_iload C dX7_bestMove_71 1 rfl ?_
      refine zm_ci (zr_SN (As := [.int r_2]) (rest := [.int r_6, .int x2, .ref (g.2.2.1 (k0 + 3))]) C (c_X9_toOf l g (u, W) r_2 h) wd_665 wd_666 wd_1 wd_667 hz_X9_toOf rfl rfl ⟨by decide, by decide⟩ ⟨by decide, by decide⟩ rfl rfl (Nat.le_of_ble_eq_true rfl) dX7_bestMove_73) (fun r_8 M1 hq => ?_)
      obtain ⟨rfl, h⟩ := hq
      refine zm_ci (zr_SN (As := [.int x2, .int r_6, .int r_8]) (rest := [.ref (g.2.2.1 (k0 + 3))]) C (c_X9_shifted l g (u, W) x2 r_6 r_8 h) wd_668 wd_669 wd_1 wd_670 hz_X9_shifted rfl rfl ⟨by decide, by decide⟩ ⟨by decide, by decide⟩ rfl rfl (Nat.le_of_ble_eq_true rfl) dX7_bestMove_76) (fun r_10 M1 hq => ?_)
      obtain ⟨rfl, h⟩ := hq
      refine zm_ci (zr_SN (As := [.ref (g.2.2.1 (k0 + 3)), .int r_10]) (rest := []) C (c_X9_at l g u W (k0 + 3) (zk9_3 hk0) r_10 h) wd_610 wd_473 wd_1 wd_474 hz_X9_at rfl rfl ⟨by decide, by decide⟩ ⟨by decide, by decide⟩ rfl rfl (Nat.le_of_ble_eq_true rfl) dX7_bestMove_79) (fun r_12 M1 hq => ?_)
      obtain ⟨rfl, h⟩ := hq
      refine zm_iload C dX7_bestMove_82 4 rfl ?_
      refine zm_icmp_ne (tgt := 90) C dX7_bestMove_84 (by decide) (fun hc_14 => ?_) (fun hc_14 => ?_)
      · have h := h.1 hc_14
        obtain ⟨x8_15, hx8_15⟩ : ∃ z, z = x8 + (1 : Int32) := ⟨_, rfl⟩
        have h := h x8_15 hx8_15
        refine zm_iinc (v := x8_15) (lv' := [(8, .int x8_15), (5, .long r_4), (9, .int r_2), (0, .ref (g.2.2.1 k0)), (2, .int x2), (4, .int x4), (7, .int x7)]) C dX7_bestMove_90 6 rfl (by rw [hx8_15]; rfl) (by decide) rfl ?_
        refine zm_goto (tgt := 40) C dX7_bestMove_93 (by decide) ?_
        exact zm_sub [3, 4, 5, 1, 6, 0] rfl (ih _ _ _ _ _ h)
      · have h := h.2 hc_14
        refine zm_iload C dX7_bestMove_87 1 rfl ?_
        exact zm_iret C hr dX7_bestMove_89 ⟨rfl, h⟩
def wb_X7_bestMove_21 (k0 : Nat) (k1 : Nat) (u : MU) (Q : Int32 → Prop) (x2 : Int32) (s0 : Int32) : Prop := w_X1_movesOf k1 u x2 (fun r_1 => w_J13_bitCount_95d88 r_1 (fun r_3 => ∃ nn, wl_X7_bestMove_40  k0 k1 u Q nn x2 s0 r_1 r_3 (0 : Int32)))
set_option maxHeartbeats 4000000 in
set_option maxRecDepth 100000 in
theorem vb_X7_bestMove_21 {p : Program} {l : Launch} {e : Env} {s : State} {m : MethodId} {args : Array Value} {below : List Frame} {meth : Method} {c : Code} {g : GE} {W : MU × ((Nat → Int64) × (Nat → UInt64))} {u : MU} {k0 : Nat} {k1 : Nat} {Q : Int32 → Prop} (C : zCx p l s m args meth c g RX7 cX7_bestMove 10) (hr : meth.sig.returnType = (Option.some Jvm.ClassFile.FieldType.int)) (hk0 : zkd k0 = 9) (hk1 : zkd k1 = 3) (x2 : Int32) (s0 : Int32) (h : wb_X7_bestMove_21  k0 k1 u Q x2 s0) : WM p l e rm_X7_bestMove s m args below meth c g 10 0 0 (MQ below (zQi g (zP0 (u, W) Q)) args s 0 0 (zA g)) 21 [(0, .ref (g.2.2.1 k0)), (1, .ref (g.2.2.1 k1)), (2, .int x2)] [.int s0] (u, W) := by
  unfold wb_X7_bestMove_21 at h
  refine zm_istore (lv' := [(4, .int s0), (0, .ref (g.2.2.1 k0)), (1, .ref (g.2.2.1 k1)), (2, .int x2)]) C dX7_bestMove_21 (by decide) rfl ?_
  refine zm_aload_n C dX7_bestMove_23 rfl 2 rfl ?_
  refine zm_iload_n C dX7_bestMove_24 rfl 3 rfl ?_
  refine zm_cl (zr_V (As := [.int x2]) (rest := []) C (c_X1_movesOf l g u W k1 hk1 x2 h) wd_611 wd_612 wd_613 wd_3 wd_614 hy_X1_movesOf rfl rfl ⟨by decide, by decide⟩ ⟨by decide, by decide⟩ (ci := 1) (zkd_lt hk1 (by decide)) (zCell_k hk1) rfl rfl rfl rfl (Nat.le_of_ble_eq_true rfl) dX7_bestMove_25) (fun r_1 M1 hq => ?_)
  obtain ⟨rfl, h⟩ := hq
  refine zm_lstore (lv' := [(5, .long r_1), (4, .int s0), (0, .ref (g.2.2.1 k0)), (1, .ref (g.2.2.1 k1)), (2, .int x2)]) C dX7_bestMove_28 (by decide) rfl ?_
  refine zm_lload C dX7_bestMove_30 0 rfl ?_
  refine zm_ci (zr_Sx (As := [.long r_1]) (rest := []) C (c_J13_bitCount_95d88 l g (u, W) r_1 h) wd_636 wd_637 wd_21 wd_638 hz_J13_bitCount_95d88 rfl rfl ⟨by decide, by decide⟩ ⟨by decide, by decide⟩ rfl rfl (Nat.le_of_ble_eq_true rfl) dX7_bestMove_32) (fun r_3 M1 hq => ?_)
  obtain ⟨rfl, h⟩ := hq
  refine zm_istore (lv' := [(7, .int r_3), (5, .long r_1), (4, .int s0), (0, .ref (g.2.2.1 k0)), (1, .ref (g.2.2.1 k1)), (2, .int x2)]) C dX7_bestMove_35 (by decide) rfl ?_
  refine zm_iconst (v := 0) C dX7_bestMove_37 (by decide) ?_
  refine zm_istore (lv' := [(8, .int (0 : Int32)), (7, .int r_3), (5, .long r_1), (4, .int s0), (0, .ref (g.2.2.1 k0)), (1, .ref (g.2.2.1 k1)), (2, .int x2)]) C dX7_bestMove_38 (by decide) rfl ?_
  obtain ⟨nn, h⟩ := h
  exact zm_sub [4, 6, 3, 2, 1, 0] rfl (vl_X7_bestMove_40 C hr hk0 hk1  nn _ _ _ _ _ h)
def w_X7_bestMove (k0 : Nat) (k1 : Nat) (u : MU) (x2 : Int32) (Q : Int32 → Prop) : Prop := w_X9_at (k0 + 3) u x2 (fun r_1 => ((¬ r_1 = (-1 : Int32)) → wb_X7_bestMove_21  k0 k1 u Q x2 (r_1 - (1 : Int32))) ∧ ((r_1 = (-1 : Int32)) → wb_X7_bestMove_21  k0 k1 u Q x2 (-1 : Int32)))
set_option maxHeartbeats 4000000 in
set_option maxRecDepth 100000 in
theorem c_X7_bestMove (l : Launch) (g : GE) (u : MU) (W : MU × ((Nat → Int64) × (Nat → UInt64))) (k0 : Nat) (k1 : Nat) (hk0 : zkd k0 = 9) (hk1 : zkd k1 = 3) (x2 : Int32) {Q : Int32 → Prop} (h : w_X7_bestMove k0 k1 u x2 Q) : Met l yX7_bestMove (.code yX7_bestMove cX7_bestMove 10 (Option.some Jvm.ClassFile.FieldType.int) :: TB) rm_X7_bestMove (zPc g (u, W) [.ref (g.2.2.1 k0), .ref (g.2.2.1 k1), .int x2]) (zQi g (zP0 (u, W) Q)) 0 0 (zA g) := by
  unfold w_X7_bestMove at h
  refine zMet (own := RX7) [(0, .ref (g.2.2.1 k0)), (1, .ref (g.2.2.1 k1)), (2, .int x2)] (by decide +kernel) rfl (Nat.le_of_ble_eq_true rfl) rfl (fun p e s m args below meth c C hr => ?_)
  refine zm_aload_n C dX7_bestMove_0 rfl 0 rfl ?_
  refine gf_RX7_22 (k1 := (k0 + 3)) C hk0 rfl dX7_bestMove_1 ?_
  refine zm_iload_n C dX7_bestMove_4 rfl 2 rfl ?_
  refine zm_ci (zr_SN (As := [.ref (g.2.2.1 (k0 + 3)), .int x2]) (rest := []) C (c_X9_at l g u W (k0 + 3) (zk9_3 hk0) x2 h) wd_610 wd_473 wd_1 wd_474 hz_X9_at rfl rfl ⟨by decide, by decide⟩ ⟨by decide, by decide⟩ rfl rfl (Nat.le_of_ble_eq_true rfl) dX7_bestMove_5) (fun r_1 M1 hq => ?_)
  obtain ⟨rfl, h⟩ := hq
  refine zm_istore_n (lv' := [(3, .int r_1), (0, .ref (g.2.2.1 k0)), (1, .ref (g.2.2.1 k1)), (2, .int x2)]) C dX7_bestMove_8 rfl (by decide) rfl ?_
  refine zm_iload_n C dX7_bestMove_9 rfl 0 rfl ?_
  refine zm_iconst (v := -1) C dX7_bestMove_10 (by decide) ?_
  refine zm_icmp_ne (tgt := 18) C dX7_bestMove_11 (by decide) (fun hc_3 => ?_) (fun hc_3 => ?_)
  · have h := h.1 hc_3
    refine zm_iload_n C dX7_bestMove_18 rfl 0 rfl ?_
    refine zm_iconst (v := 1) C dX7_bestMove_19 (by decide) ?_
    refine zm_isub C dX7_bestMove_20 ?_
    exact zm_sub [1, 2, 3] rfl (vb_X7_bestMove_21 C hr hk0 hk1  _ _ h)
  · have h := h.2 hc_3
    refine zm_iconst (v := -1) C dX7_bestMove_14 (by decide) ?_
    refine zm_goto (tgt := 21) C dX7_bestMove_15 (by decide) ?_
    exact zm_sub [1, 2, 3] rfl (vb_X7_bestMove_21 C hr hk0 hk1  _ _ h)
abbrev rm_X8_add : Room := { frames := 0, cells := 0, slots := 0, locals := 0 }
def w_X8_add (k0 : Nat) (x1 : Int32) (u : MU) (Q : MU → Prop) : Prop := (((u k0 0) < 0) → Q u) ∧ ((¬ (u k0 0) < 0) → (((Int32.ofNat 160) ≤ (u k0 0)) → Q u) ∧ ((¬ (Int32.ofNat 160) ≤ (u k0 0)) → vp_in (u k0 0) 160 ∧ (∀ u_4, u_4 = u2 u (k0 + 1) ((u k0 0)).toNatClampNeg (vp_nar .char x1) → (∀ u_5, u_5 = u2 u_4 k0 0 ((u_4 k0 0) + (1 : Int32)) → Q u_5))))
set_option maxHeartbeats 4000000 in
set_option maxRecDepth 100000 in
theorem c_X8_add (l : Launch) (g : GE) (u : MU) (W : MU × ((Nat → Int64) × (Nat → UInt64))) (k0 : Nat) (hk0 : zkd k0 = 11) (x1 : Int32) {Q : MU → Prop} (h : w_X8_add k0 x1 u Q) : Met l yX8_add (.code yX8_add cX8_add 2 (Option.none : Option Jvm.ClassFile.FieldType) :: TB) rm_X8_add (zPc g (u, W) [.ref (g.2.2.1 k0), .int x1]) (zQv g (zPxv W Q)) 0 0 (zA g) := by
  unfold w_X8_add at h
  refine zMet (own := RX8) [(0, .ref (g.2.2.1 k0)), (1, .int x1)] (by decide +kernel) rfl (Nat.le_of_ble_eq_true rfl) rfl (fun p e s m args below meth c C hr => ?_)
  refine zm_aload_n C dX8_add_0 rfl 0 rfl ?_
  refine gf_RX8_15 C hk0 dX8_add_1 ?_
  refine zm_if_lt (tgt := 39) C dX8_add_4 (by decide) (fun hc_1 => ?_) (fun hc_1 => ?_)
  · have h := h.1 hc_1
    exact zm_vret C hr dX8_add_39 ⟨_, rfl, h⟩
  · have h := h.2 hc_1
    refine zm_aload_n C dX8_add_7 rfl 0 rfl ?_
    refine gf_RX8_15 C hk0 dX8_add_8 ?_
    refine zm_aload_n C dX8_add_11 rfl 0 rfl ?_
    refine gf_RX8_9 (k1 := (k0 + 1)) C hk0 rfl dX8_add_12 ?_
    refine zm_len_xc C (zk11_1 hk0) (zl11_1 hk0) dX8_add_15 ?_
    refine zm_icmp_ge (tgt := 39) C dX8_add_16 (by decide) (fun hc_2 => ?_) (fun hc_2 => ?_)
    · have h := h.1 hc_2
      exact zm_vret C hr dX8_add_39 ⟨_, rfl, h⟩
    · have h := h.2 hc_2
      refine zm_aload_n C dX8_add_19 rfl 0 rfl ?_
      refine gf_RX8_9 (k1 := (k0 + 1)) C hk0 rfl dX8_add_20 ?_
      refine zm_aload_n C dX8_add_23 rfl 0 rfl ?_
      refine gf_RX8_15 C hk0 dX8_add_24 ?_
      refine zm_iload_n C dX8_add_27 rfl 1 rfl ?_
      obtain ⟨hg_3, h⟩ := h
      refine zq_st_xc C (zk11_1 hk0) (zl11_1 hk0) hg_3 dX8_add_28 (fun u_4 hu_4 => ?_)
      have h := h u_4 hu_4
      refine zm_aload_n C dX8_add_29 rfl 0 rfl ?_
      refine zm_dup C dX8_add_30 rfl ?_
      refine gf_RX8_15 C hk0 dX8_add_31 ?_
      refine zm_iconst (v := 1) C dX8_add_34 (by decide) ?_
      refine zm_iadd C dX8_add_35 ?_
      refine pf_RX8_15 C hk0  dX8_add_36 (fun u_5 hu_5 => ?_)
      have h := h u_5 hu_5
      exact zm_vret C hr dX8_add_39 ⟨_, rfl, h⟩
abbrev rm_X9_setAside : Room := { frames := 4, cells := 0, slots := 0, locals := 263 }
def w_X9_setAside (u : MU) (Q : MU → Prop) : Prop := w_X6_become 9 1 u (fun u_2 => Q u_2)
set_option maxHeartbeats 4000000 in
set_option maxRecDepth 100000 in
theorem c_X9_setAside (l : Launch) (g : GE) (u : MU) (W : MU × ((Nat → Int64) × (Nat → UInt64))) {Q : MU → Prop} (h : w_X9_setAside u Q) : Met l yX9_setAside (.code yX9_setAside cX9_setAside 1 (Option.none : Option Jvm.ClassFile.FieldType) :: TB) rm_X9_setAside (zPc g (u, W) [.ref (g.2.2.1 0)]) (zQv g (zPxv W Q)) 0 0 (zA g) := by
  unfold w_X9_setAside at h
  refine zMet (own := RX9) [(0, .ref (g.2.2.1 0))] (by decide +kernel) rfl (Nat.le_of_ble_eq_true rfl) rfl (fun p e s m args below meth c C hr => ?_)
  refine zm_aload_n C dX9_setAside_0 rfl 0 rfl ?_
  refine gf_RX9_16 (k1 := 9) C kd_0 rfl dX9_setAside_1 ?_
  refine zm_aload_n C dX9_setAside_4 rfl 0 rfl ?_
  refine gf_RX9_10 (k1 := 1) C kd_0 rfl dX9_setAside_5 ?_
  refine zm_cv (zr_V (As := [.ref (g.2.2.1 1)]) (rest := []) C (c_X6_become l g u W 9 1 kd_9 kd_1 h) wd_310 wd_311 wd_312 wd_2 wd_313 hy_X6_become rfl rfl ⟨by decide, by decide⟩ ⟨by decide, by decide⟩ (ci := 6) (by decide) (zCell_k kd_9) rfl rfl rfl rfl (Nat.le_of_ble_eq_true rfl) dX9_setAside_8) (fun M1 hq => ?_)
  obtain ⟨u_2, rfl, h⟩ := hq
  exact zm_vret C hr dX9_setAside_11 ⟨_, rfl, h⟩
abbrev rm_X9_refused : Room := { frames := 0, cells := 0, slots := 0, locals := 0 }
def w_X9_refused (x1 : Int32) (x2 : Int32) (u : MU) (Q : Int32 → MU → Prop) : Prop := (∀ u_1, u_1 = u2 u 116 0 (1 : Int32) → (∀ u_2, u_2 = u2 u_1 116 1 x1 → (∀ u_3, u_3 = u2 u_2 116 2 x2 → (∀ u_4, u_4 = u2 u_3 116 3 (u_3 0 14) → Q (-1 : Int32) u_4))))
set_option maxHeartbeats 4000000 in
set_option maxRecDepth 100000 in
theorem c_X9_refused (l : Launch) (g : GE) (u : MU) (W : MU × ((Nat → Int64) × (Nat → UInt64))) (x1 : Int32) (x2 : Int32) {Q : Int32 → MU → Prop} (h : w_X9_refused x1 x2 u Q) : Met l yX9_refused (.code yX9_refused cX9_refused 3 (Option.some Jvm.ClassFile.FieldType.int) :: TB) rm_X9_refused (zPc g (u, W) [.ref (g.2.2.1 0), .int x1, .int x2]) (zQi g (zPx W Q)) 0 0 (zA g) := by
  unfold w_X9_refused at h
  refine zMet (own := RX9) [(0, .ref (g.2.2.1 0)), (1, .int x1), (2, .int x2)] (by decide +kernel) rfl (Nat.le_of_ble_eq_true rfl) rfl (fun p e s m args below meth c C hr => ?_)
  refine zm_aload_n C dX9_refused_0 rfl 0 rfl ?_
  refine gf_RX9_73 (k1 := 116) C kd_0 rfl dX9_refused_1 ?_
  refine zm_iconst (v := 1) C dX9_refused_4 (by decide) ?_
  refine pf_RX9_365 C kd_116 (by decide) (by decide) dX9_refused_5 (fun u_1 hu_1 => ?_)
  have h := h u_1 hu_1
  refine zm_aload_n C dX9_refused_8 rfl 0 rfl ?_
  refine gf_RX9_73 (k1 := 116) C kd_0 rfl dX9_refused_9 ?_
  refine zm_iload_n C dX9_refused_12 rfl 1 rfl ?_
  refine pf_RX9_370 C kd_116  dX9_refused_13 (fun u_2 hu_2 => ?_)
  have h := h u_2 hu_2
  refine zm_aload_n C dX9_refused_16 rfl 0 rfl ?_
  refine gf_RX9_73 (k1 := 116) C kd_0 rfl dX9_refused_17 ?_
  refine zm_iload_n C dX9_refused_20 rfl 2 rfl ?_
  refine pf_RX9_373 C kd_116  dX9_refused_21 (fun u_3 hu_3 => ?_)
  have h := h u_3 hu_3
  refine zm_aload_n C dX9_refused_24 rfl 0 rfl ?_
  refine gf_RX9_73 (k1 := 116) C kd_0 rfl dX9_refused_25 ?_
  refine zm_aload_n C dX9_refused_28 rfl 0 rfl ?_
  refine gf_RX9_357 C kd_0 dX9_refused_29 ?_
  refine pf_RX9_376 C kd_116  dX9_refused_32 (fun u_4 hu_4 => ?_)
  have h := h u_4 hu_4
  refine zm_iconst (v := -1) C dX9_refused_35 (by decide) ?_
  exact zm_iret C hr dX9_refused_36 ⟨_, rfl, h⟩
abbrev rm_X9_newVersion : Room := { frames := 0, cells := 0, slots := 0, locals := 0 }
def w_X9_newVersion (u : MU) (Q : Int32 → MU → Prop) : Prop := (∀ u_1, u_1 = u2 u 0 15 ((u 0 15) + (1 : Int32)) → Q (u_1 0 15) u_1)
set_option maxHeartbeats 4000000 in
set_option maxRecDepth 100000 in
theorem c_X9_newVersion (l : Launch) (g : GE) (u : MU) (W : MU × ((Nat → Int64) × (Nat → UInt64))) {Q : Int32 → MU → Prop} (h : w_X9_newVersion u Q) : Met l yX9_newVersion (.code yX9_newVersion cX9_newVersion 1 (Option.some Jvm.ClassFile.FieldType.int) :: TB) rm_X9_newVersion (zPc g (u, W) [.ref (g.2.2.1 0)]) (zQi g (zPx W Q)) 0 0 (zA g) := by
  unfold w_X9_newVersion at h
  refine zMet (own := RX9) [(0, .ref (g.2.2.1 0))] (by decide +kernel) rfl (Nat.le_of_ble_eq_true rfl) rfl (fun p e s m args below meth c C hr => ?_)
  refine zm_aload_n C dX9_newVersion_0 rfl 0 rfl ?_
  refine zm_dup C dX9_newVersion_1 rfl ?_
  refine gf_RX9_441 C kd_0 dX9_newVersion_2 ?_
  refine zm_iconst (v := 1) C dX9_newVersion_5 (by decide) ?_
  refine zm_iadd C dX9_newVersion_6 ?_
  refine pf_RX9_441 C kd_0  dX9_newVersion_7 (fun u_1 hu_1 => ?_)
  have h := h u_1 hu_1
  refine zm_aload_n C dX9_newVersion_10 rfl 0 rfl ?_
  refine gf_RX9_441 C kd_0 dX9_newVersion_11 ?_
  exact zm_iret C hr dX9_newVersion_14 ⟨_, rfl, h⟩
abbrev rm_X9_markChanged : Room := { frames := 1, cells := 0, slots := 0, locals := 20 }
def w_X9_markChanged (u : MU) (Q : MU → Prop) : Prop := (∀ u_1, u_1 = u2 u 6 0 (0 : Int32) → w_X9_newVersion  u_1 (fun r_2 u_3 => (∀ u_4, u_4 = u2 u_3 2 4 r_2 → Q u_4)))
set_option maxHeartbeats 4000000 in
set_option maxRecDepth 100000 in
theorem c_X9_markChanged (l : Launch) (g : GE) (u : MU) (W : MU × ((Nat → Int64) × (Nat → UInt64))) {Q : MU → Prop} (h : w_X9_markChanged u Q) : Met l yX9_markChanged (.code yX9_markChanged cX9_markChanged 1 (Option.none : Option Jvm.ClassFile.FieldType) :: TB) rm_X9_markChanged (zPc g (u, W) [.ref (g.2.2.1 0)]) (zQv g (zPxv W Q)) 0 0 (zA g) := by
  unfold w_X9_markChanged at h
  refine zMet (own := RX9) [(0, .ref (g.2.2.1 0))] (by decide +kernel) rfl (Nat.le_of_ble_eq_true rfl) rfl (fun p e s m args below meth c C hr => ?_)
  refine zm_aload_n C dX9_markChanged_0 rfl 0 rfl ?_
  refine gf_RX9_10 (k1 := 1) C kd_0 rfl dX9_markChanged_1 ?_
  refine gf_RX9_118 (k1 := 6) C kd_1 rfl dX9_markChanged_4 ?_
  refine zm_iconst (v := 0) C dX9_markChanged_7 (by decide) ?_
  refine pf_RX9_122 C kd_6 (by decide) (by decide) dX9_markChanged_8 (fun u_1 hu_1 => ?_)
  have h := h u_1 hu_1
  refine zm_aload_n C dX9_markChanged_11 rfl 0 rfl ?_
  refine gf_RX9_10 (k1 := 1) C kd_0 rfl dX9_markChanged_12 ?_
  refine gf_RX9_138 (k1 := 2) C kd_1 rfl dX9_markChanged_15 ?_
  refine zm_aload_n C dX9_markChanged_18 rfl 0 rfl ?_
  refine zm_ci (zr_V (As := []) (rest := [.ref (g.2.2.1 2)]) C (c_X9_newVersion l g u_1 W  h) wd_359 wd_361 wp_4 wd_1 wd_362 hy_X9_newVersion rfl rfl ⟨by decide, by decide⟩ ⟨by decide, by decide⟩ (ci := 9) (by decide) (zCell_k kd_0) rfl rfl rfl rfl (Nat.le_of_ble_eq_true rfl) dX9_markChanged_19) (fun r_2 M1 hq => ?_)
  obtain ⟨u_3, rfl, h⟩ := hq
  refine pf_RX9_262 C kd_2  dX9_markChanged_22 (fun u_4 hu_4 => ?_)
  have h := h u_4 hu_4
  exact zm_vret C hr dX9_markChanged_25 ⟨_, rfl, h⟩
abbrev rm_X9_addBurrow : Room := { frames := 2, cells := 0, slots := 0, locals := 40 }
def w_X9_addBurrow (u : MU) (Q : Int32 → MU → Prop) : Prop := (((u 2 0) < (8 : Int32)) → (∀ u_2, u_2 = u2 u 2 0 ((u 2 0) + (1 : Int32)) → w_X9_markChanged  u_2 (fun u_4 => Q ((u_4 2 0) - (1 : Int32)) u_4))) ∧ ((¬ (u 2 0) < (8 : Int32)) → w_X9_refused (2 : Int32) (8 : Int32) u (fun r_5 u_6 => Q r_5 u_6))
set_option maxHeartbeats 4000000 in
set_option maxRecDepth 100000 in
theorem c_X9_addBurrow (l : Launch) (g : GE) (u : MU) (W : MU × ((Nat → Int64) × (Nat → UInt64))) {Q : Int32 → MU → Prop} (h : w_X9_addBurrow u Q) : Met l yX9_addBurrow (.code yX9_addBurrow cX9_addBurrow 2 (Option.some Jvm.ClassFile.FieldType.int) :: TB) rm_X9_addBurrow (zPc g (u, W) [.ref (g.2.2.1 0)]) (zQi g (zPx W Q)) 0 0 (zA g) := by
  unfold w_X9_addBurrow at h
  refine zMet (own := RX9) [(0, .ref (g.2.2.1 0))] (by decide +kernel) rfl (Nat.le_of_ble_eq_true rfl) rfl (fun p e s m args below meth c C hr => ?_)
  refine zm_aload_n C dX9_addBurrow_0 rfl 0 rfl ?_
  refine gf_RX9_10 (k1 := 1) C kd_0 rfl dX9_addBurrow_1 ?_
  refine gf_RX9_138 (k1 := 2) C kd_1 rfl dX9_addBurrow_4 ?_
  refine zm_astore_n (lv' := [(1, .ref (g.2.2.1 2)), (0, .ref (g.2.2.1 0))]) C dX9_addBurrow_7 rfl (by decide) rfl ?_
  refine zm_aload_n C dX9_addBurrow_8 rfl 0 rfl ?_
  refine gf_RX9_265 C kd_2 dX9_addBurrow_9 ?_
  refine zm_bipush (v := 8) C dX9_addBurrow_12 (by decide) ?_
  refine zm_icmp_lt (tgt := 25) C dX9_addBurrow_14 (by decide) (fun hc_1 => ?_) (fun hc_1 => ?_)
  · have h := h.1 hc_1
    refine zm_aload_n C dX9_addBurrow_25 rfl 0 rfl ?_
    refine zm_dup C dX9_addBurrow_26 rfl ?_
    refine gf_RX9_265 C kd_2 dX9_addBurrow_27 ?_
    refine zm_iconst (v := 1) C dX9_addBurrow_30 (by decide) ?_
    refine zm_iadd C dX9_addBurrow_31 ?_
    refine pf_RX9_265 C kd_2  dX9_addBurrow_32 (fun u_2 hu_2 => ?_)
    have h := h u_2 hu_2
    refine zm_aload_n C dX9_addBurrow_35 rfl 1 rfl ?_
    refine zm_cv (zr_V (As := []) (rest := []) C (c_X9_markChanged l g u_2 W  h) wd_355 wd_357 wp_3 wd_1 wd_358 hy_X9_markChanged rfl rfl ⟨by decide, by decide⟩ ⟨by decide, by decide⟩ (ci := 9) (by decide) (zCell_k kd_0) rfl rfl rfl rfl (Nat.le_of_ble_eq_true rfl) dX9_addBurrow_36) (fun M1 hq => ?_)
    obtain ⟨u_4, rfl, h⟩ := hq
    refine zm_aload_n C dX9_addBurrow_39 rfl 0 rfl ?_
    refine gf_RX9_265 C kd_2 dX9_addBurrow_40 ?_
    refine zm_iconst (v := 1) C dX9_addBurrow_43 (by decide) ?_
    refine zm_isub C dX9_addBurrow_44 ?_
    exact zm_iret C hr dX9_addBurrow_45 ⟨_, rfl, h⟩
  · have h := h.2 hc_1
    refine zm_aload_n C dX9_addBurrow_17 rfl 1 rfl ?_
    refine zm_iconst (v := 2) C dX9_addBurrow_18 (by decide) ?_
    refine zm_bipush (v := 8) C dX9_addBurrow_19 (by decide) ?_
    refine zm_ci (zr_V (As := [.int (2 : Int32), .int (8 : Int32)]) (rest := []) C (c_X9_refused l g u W (2 : Int32) (8 : Int32) h) wd_351 wd_353 wp_2 wd_1 wd_354 hy_X9_refused rfl rfl ⟨by decide, by decide⟩ ⟨by decide, by decide⟩ (ci := 9) (by decide) (zCell_k kd_0) rfl rfl rfl rfl (Nat.le_of_ble_eq_true rfl) dX9_addBurrow_21) (fun r_5 M1 hq => ?_)
    obtain ⟨u_6, rfl, h⟩ := hq
    exact zm_iret C hr dX9_addBurrow_24 ⟨_, rfl, h⟩
abbrev rm_X9_settled : Room := { frames := 6, cells := 1, slots := 6, locals := 285 }
def w_X9_settled (x1 : Int32) (u : MU) (Q : Int32 → MU → Prop) (X : String → MU → Prop) : Prop := ((¬ x1 = (-1 : Int32)) → w_X0_keep 9 u (fun u_3 => Q x1 u_3)) ∧ ((x1 = (-1 : Int32)) → w_X6_become 1 9 u (fun u_5 => X "java/lang/UnsupportedOperationException" u_5))
set_option maxHeartbeats 4000000 in
set_option maxRecDepth 100000 in
theorem c_X9_settled (l : Launch) (hstk : l.stackTraces = false) (g : GE) (u : MU) (W : MU × ((Nat → Int64) × (Nat → UInt64))) (x1 : Int32) {Q : Int32 → MU → Prop} {X : String → MU → Prop} (h : w_X9_settled x1 u Q X) : vx_Met l yX9_settled (.code yX9_settled cX9_settled 2 (Option.some Jvm.ClassFile.FieldType.int) :: TB) rm_X9_settled (zPc g (u, W) [.ref (g.2.2.1 0), .int x1]) (zQi g (zPx W Q)) (zXC g (zXx W X)) 1 6 (zA g) := by
  unfold w_X9_settled at h
  refine zMetX (own := RX9) [(0, .ref (g.2.2.1 0)), (1, .int x1)] (by decide +kernel) rfl (Nat.le_of_ble_eq_true rfl) rfl (fun p e s m args below meth c C hr ht => ?_)
  refine zm_iload_n C dX9_settled_0 rfl 1 rfl ?_
  refine zm_iconst (v := -1) C dX9_settled_1 (by decide) ?_
  refine zm_icmp_ne (tgt := 27) C dX9_settled_2 (by decide) (fun hc_1 => ?_) (fun hc_1 => ?_)
  · have h := h.1 hc_1
    refine zm_aload_n C dX9_settled_27 rfl 0 rfl ?_
    refine gf_RX9_25 (k1 := 25) C kd_0 rfl dX9_settled_28 ?_
    refine zm_aload_n C dX9_settled_31 rfl 0 rfl ?_
    refine gf_RX9_16 (k1 := 9) C kd_0 rfl dX9_settled_32 ?_
    refine zm_cv (zr_V (As := [.ref (g.2.2.1 9)]) (rest := []) C (c_X0_keep l g u W 9 kd_9 h) wd_439 wd_440 wd_441 wd_5 wd_442 hy_X0_keep rfl rfl ⟨by decide, by decide⟩ ⟨by decide, by decide⟩ (ci := 0) (by decide) (zCell_k kd_25) rfl rfl rfl rfl (Nat.le_of_ble_eq_true rfl) dX9_settled_35) (fun M1 hq => ?_)
    obtain ⟨u_3, rfl, h⟩ := hq
    refine zm_iload_n C dX9_settled_38 rfl 1 rfl ?_
    refine zm_vx (by decide) (by decide) ?_
    exact zm_iret C hr dX9_settled_39 ⟨_, rfl, h⟩
  · have h := h.2 hc_1
    refine zm_aload_n C dX9_settled_5 rfl 0 rfl ?_
    refine gf_RX9_10 (k1 := 1) C kd_0 rfl dX9_settled_6 ?_
    refine zm_aload_n C dX9_settled_9 rfl 0 rfl ?_
    refine gf_RX9_16 (k1 := 9) C kd_0 rfl dX9_settled_10 ?_
    refine zm_cv (zr_V (As := [.ref (g.2.2.1 9)]) (rest := []) C (c_X6_become l g u W 1 9 kd_1 kd_9 h) wd_310 wd_311 wd_312 wd_2 wd_313 hy_X6_become rfl rfl ⟨by decide, by decide⟩ ⟨by decide, by decide⟩ (ci := 6) (by decide) (zCell_k kd_1) rfl rfl rfl rfl (Nat.le_of_ble_eq_true rfl) dX9_settled_13) (fun M1 hq => ?_)
    obtain ⟨u_5, rfl, h⟩ := hq
    exact zm_throwW (names := ["java/lang/RuntimeException", "java/lang/Exception"]) C hstk fit_UnsupportedOperationException fit_names wd_367 wd_17 (is := 435) (text := "it is refused") (by decide) hat_UnsupportedOperationException_437 hgd_UnsupportedOperationException_437_433 dX9_settled_16 dX9_settled_19 dX9_settled_20 dX9_settled_23 dX9_settled_26 ht (Nat.le_of_ble_eq_true rfl) (Nat.le_of_ble_eq_true rfl) (Nat.le_of_ble_eq_true rfl) (Nat.le_of_ble_eq_true rfl) (Nat.le_of_ble_eq_true rfl) (Nat.le_of_ble_eq_true rfl) ⟨_, rfl, h⟩
abbrev rm_X9_dig : Room := { frames := 7, cells := 1, slots := 6, locals := 306 }
def w_X9_dig (u : MU) (Q : Int32 → MU → Prop) (X : String → MU → Prop) : Prop := w_X9_setAside  u (fun u_2 => w_X9_addBurrow  u_2 (fun r_3 u_4 => w_X9_settled r_3 u_4 (fun r_5 u_6 => Q r_5 u_6) X))
set_option maxHeartbeats 4000000 in
set_option maxRecDepth 100000 in
theorem c_X9_dig (l : Launch) (hstk : l.stackTraces = false) (g : GE) (u : MU) (W : MU × ((Nat → Int64) × (Nat → UInt64))) {Q : Int32 → MU → Prop} {X : String → MU → Prop} (h : w_X9_dig u Q X) : vx_Met l yX9_dig (.code yX9_dig cX9_dig 1 (Option.some Jvm.ClassFile.FieldType.int) :: TB) rm_X9_dig (zPc g (u, W) [.ref (g.2.2.1 0)]) (zQi g (zPx W Q)) (zXC g (zXx W X)) 1 6 (zA g) := by
  unfold w_X9_dig at h
  refine zMetX (own := RX9) [(0, .ref (g.2.2.1 0))] (by decide +kernel) rfl (Nat.le_of_ble_eq_true rfl) rfl (fun p e s m args below meth c C hr ht => ?_)
  refine zm_aload_n C dX9_dig_0 rfl 0 rfl ?_
  refine zm_cv (zr_V (As := []) (rest := []) C (c_X9_setAside l g u W  h) wd_343 wd_345 wp_0 wd_1 wd_346 hy_X9_setAside rfl rfl ⟨by decide, by decide⟩ ⟨by decide, by decide⟩ (ci := 9) (by decide) (zCell_k kd_0) rfl rfl rfl rfl (Nat.le_of_ble_eq_true rfl) dX9_dig_1) (fun M1 hq => ?_)
  obtain ⟨u_2, rfl, h⟩ := hq
  refine zm_aload_n C dX9_dig_4 rfl 0 rfl ?_
  refine zm_aload_n C dX9_dig_5 rfl 0 rfl ?_
  refine zm_ci (zr_V (As := []) (rest := [.ref (g.2.2.1 0)]) C (c_X9_addBurrow l g u_2 W  h) wd_347 wd_349 wp_1 wd_1 wd_350 hy_X9_addBurrow rfl rfl ⟨by decide, by decide⟩ ⟨by decide, by decide⟩ (ci := 9) (by decide) (zCell_k kd_0) rfl rfl rfl rfl (Nat.le_of_ble_eq_true rfl) dX9_dig_6) (fun r_3 M1 hq => ?_)
  obtain ⟨u_4, rfl, h⟩ := hq
  refine zx_ci (zrX_V (As := [.int r_3]) (rest := []) C (c_X9_settled l hstk g u_4 W r_3 h) wd_363 wd_365 wp_5 wd_1 wd_366 hy_X9_settled rfl rfl ⟨by decide, by decide⟩ ⟨by decide, by decide⟩ (ci := 9) (by decide) (zCell_k kd_0) rfl rfl rfl rfl (Nat.le_of_ble_eq_true rfl) dX9_dig_9) (fun E M1 hq => ?_) (fun r_5 M1 hq => ?_)
  · obtain ⟨u_6, rfl, h⟩ := hq
    exact zm_out C ht (by decide) (by decide) ⟨_, rfl, h⟩
  · obtain ⟨u_6, rfl, h⟩ := hq
    refine zm_vx (by decide) (by decide) ?_
    exact zm_iret C hr dX9_dig_12 ⟨_, rfl, h⟩
abbrev rm_X9_isRefusedFor : Room := { frames := 1, cells := 0, slots := 0, locals := 22 }
def w_X9_isRefusedFor (x1 : Int32) (u : MU) (Q : Int32 → MU → Prop) : Prop := w_X1_has 2 u x1 (fun r_1 => ((r_1 = 0) → w_X9_refused (3 : Int32) x1 u (fun r_4 u_5 => Q (1 : Int32) u_5)) ∧ ((¬ r_1 = 0) → Q (0 : Int32) u))
set_option maxHeartbeats 4000000 in
set_option maxRecDepth 100000 in
theorem c_X9_isRefusedFor (l : Launch) (g : GE) (u : MU) (W : MU × ((Nat → Int64) × (Nat → UInt64))) (x1 : Int32) {Q : Int32 → MU → Prop} (h : w_X9_isRefusedFor x1 u Q) : Met l yX9_isRefusedFor (.code yX9_isRefusedFor cX9_isRefusedFor 2 (Option.some Jvm.ClassFile.FieldType.boolean) :: TB) rm_X9_isRefusedFor (zPc g (u, W) [.ref (g.2.2.1 0), .int x1]) (zQi g (zPx W Q)) 0 0 (zA g) := by
  unfold w_X9_isRefusedFor at h
  refine zMet (own := RX9) [(0, .ref (g.2.2.1 0)), (1, .int x1)] (by decide +kernel) rfl (Nat.le_of_ble_eq_true rfl) rfl (fun p e s m args below meth c C hr => ?_)
  refine zm_aload_n C dX9_isRefusedFor_0 rfl 0 rfl ?_
  refine gf_RX9_10 (k1 := 1) C kd_0 rfl dX9_isRefusedFor_1 ?_
  refine gf_RX9_138 (k1 := 2) C kd_1 rfl dX9_isRefusedFor_4 ?_
  refine zm_iload_n C dX9_isRefusedFor_7 rfl 1 rfl ?_
  refine zm_ci (zr_V (As := [.int x1]) (rest := []) C (c_X1_has l g u W 2 kd_2 x1 h) wd_464 wd_465 wd_466 wd_3 wd_467 hy_X1_has rfl rfl ⟨by decide, by decide⟩ ⟨by decide, by decide⟩ (ci := 1) (by decide) (zCell_k kd_2) rfl rfl rfl rfl (Nat.le_of_ble_eq_true rfl) dX9_isRefusedFor_8) (fun r_1 M1 hq => ?_)
  obtain ⟨rfl, h⟩ := hq
  refine zm_if_eq (tgt := 16) C dX9_isRefusedFor_11 (by decide) (fun hc_3 => ?_) (fun hc_3 => ?_)
  · have h := h.1 hc_3
    refine zm_aload_n C dX9_isRefusedFor_16 rfl 0 rfl ?_
    refine zm_iconst (v := 3) C dX9_isRefusedFor_17 (by decide) ?_
    refine zm_iload_n C dX9_isRefusedFor_18 rfl 1 rfl ?_
    refine zm_ci (zr_V (As := [.int (3 : Int32), .int x1]) (rest := []) C (c_X9_refused l g u W (3 : Int32) x1 h) wd_351 wd_353 wp_2 wd_1 wd_354 hy_X9_refused rfl rfl ⟨by decide, by decide⟩ ⟨by decide, by decide⟩ (ci := 9) (by decide) (zCell_k kd_0) rfl rfl rfl rfl (Nat.le_of_ble_eq_true rfl) dX9_isRefusedFor_19) (fun r_4 M1 hq => ?_)
    obtain ⟨u_5, rfl, h⟩ := hq
    refine zm_pop C dX9_isRefusedFor_22 rfl ?_
    refine zm_iconst (v := 1) C dX9_isRefusedFor_23 (by decide) ?_
    exact zm_zret (ty := .boolean) C hr (by decide) dX9_isRefusedFor_24 ⟨_, rfl, h⟩
  · have h := h.2 hc_3
    refine zm_iconst (v := 0) C dX9_isRefusedFor_14 (by decide) ?_
    exact zm_zret (ty := .boolean) C hr (by decide) dX9_isRefusedFor_15 ⟨_, rfl, h⟩
