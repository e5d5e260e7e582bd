abbrev rm_X9_line : Room := { frames := 1, cells := 0, slots := 0, locals := 21 }
def wb_X9_line_116 (L34 : Int32 → Int32 → MU → Prop) (Q : Int32 → MU → Prop) (x2 : Int32) (x3 : Int32) (x4 : Int32) (s0 : Int32) (u : MU) : Prop := w_X8_add 110 s0 u (fun u_2 => w_X9_toOf x4 (fun r_3 => w_X8_add 110 ((((48 : Int32) + r_3).toUInt32 % 65536).toInt32) u_2 (fun u_6 => ∀ x3_7, x3_7 = x3 + (1 : Int32) → L34 x2 x3_7 u_6)))
set_option maxHeartbeats 4000000 in
set_option maxRecDepth 100000 in
theorem vb_X9_line_116 {p : Program} {l : Launch} {e : Env} {s : State} {m : MethodId} {args : Array Value} {below : List Frame} {meth : Method} {c : Code} {g : GE} {W : MU × ((Nat → Int64) × (Nat → UInt64))} {Q : Int32 → MU → Prop} (C : zCx p l s m args meth c g RX9 cX9_line 6) (hr : meth.sig.returnType = (Option.some Jvm.ClassFile.FieldType.int)) {L34 : Int32 → Int32 → MU → Prop} (hL34 : ∀ (x2 : Int32) (x3 : Int32) (u : MU), L34 x2 x3 u → WM p l e rm_X9_line s m args below meth c g 6 0 0 (MQ below (zQi g (zPx W Q)) args s 0 0 (zA g)) 34 [(0, .ref (g.2.2.1 0)), (1, .ref (g.2.2.1 6)), (2, .int x2), (3, .int x3)] [] (u, W)) (x2 : Int32) (x3 : Int32) (x4 : Int32) (s0 : Int32) (u : MU) (h : wb_X9_line_116 L34  Q x2 x3 x4 s0 u) : WM p l e rm_X9_line s m args below meth c g 6 0 0 (MQ below (zQi g (zPx W Q)) args s 0 0 (zA g)) 116 [(0, .ref (g.2.2.1 0)), (1, .ref (g.2.2.1 6)), (2, .int x2), (3, .int x3), (4, .int x4)] [.int s0, .ref (g.2.2.1 110)] (u, W) := by
  unfold wb_X9_line_116 at h
  refine zm_cv (zr_V (As := [.int s0]) (rest := []) C (c_X8_add l g u W 110 kd_110 s0 h) wd_728 wd_729 wd_730 wd_8 wd_731 hy_X8_add rfl rfl ⟨by decide, by decide⟩ ⟨by decide, by decide⟩ (ci := 8) (by decide) (zCell_k kd_110) rfl rfl rfl rfl (Nat.le_of_ble_eq_true rfl) dX9_line_116) (fun M1 hq => ?_)
  obtain ⟨u_2, rfl, h⟩ := hq
  refine zm_aload_n C dX9_line_119 rfl 0 rfl ?_
  refine gf_RX9_60 (k1 := 110) C kd_0 rfl dX9_line_120 ?_
  refine zm_bipush (v := 48) C dX9_line_123 (by decide) ?_
  refine zm_iload C dX9_line_125 4 rfl ?_
  refine zm_ci (zr_S (As := [.int x4]) (rest := [.int (48 : Int32), .ref (g.2.2.1 110)]) C (c_X9_toOf l g (u_2, W) x4 h) wd_818 wd_666 wd_1 wd_667 hy_X9_toOf rfl rfl ⟨by decide, by decide⟩ ⟨by decide, by decide⟩ rfl rfl (Nat.le_of_ble_eq_true rfl) dX9_line_127) (fun r_3 M1 hq => ?_)
  obtain ⟨rfl, h⟩ := hq
  refine zm_iadd C dX9_line_130 ?_
  refine zm_i2c C dX9_line_131 ?_
  refine zm_cv (zr_V (As := [.int (((48 : Int32) + r_3).toUInt32 % 65536).toInt32]) (rest := []) C (c_X8_add l g u_2 W 110 kd_110 ((((48 : Int32) + r_3).toUInt32 % 65536).toInt32) h) wd_728 wd_729 wd_730 wd_8 wd_731 hy_X8_add rfl rfl ⟨by decide, by decide⟩ ⟨by decide, by decide⟩ (ci := 8) (by decide) (zCell_k kd_110) rfl rfl rfl rfl (Nat.le_of_ble_eq_true rfl) dX9_line_132) (fun M1 hq => ?_)
  obtain ⟨u_6, rfl, h⟩ := hq
  obtain ⟨x3_7, hx3_7⟩ : ∃ z, z = x3 + (1 : Int32) := ⟨_, rfl⟩
  have h := h x3_7 hx3_7
  refine zm_iinc (v := x3_7) (lv' := [(3, .int x3_7), (0, .ref (g.2.2.1 0)), (1, .ref (g.2.2.1 6)), (2, .int x2), (4, .int x4)]) C dX9_line_135 3 rfl (by rw [hx3_7]; rfl) (by decide) rfl ?_
  refine zm_goto (tgt := 34) C dX9_line_138 (by decide) ?_
  exact zm_sub [1, 2, 3, 0] rfl (hL34 _ _ _ h)
def wb_X9_line_82 (L34 : Int32 → Int32 → MU → Prop) (Q : Int32 → MU → Prop) (x2 : Int32) (x3 : Int32) (x4 : Int32) (s0 : Int32) (u : MU) : Prop := w_X9_fromOf x4 (fun r_1 => w_X8_add 110 ((((48 : Int32) + r_1).toUInt32 % 65536).toInt32) u (fun u_4 => ((s0 = 0) → wb_X9_line_116 L34  Q x2 x3 x4 (102 : Int32) u_4) ∧ ((¬ s0 = 0) → wb_X9_line_116 L34  Q x2 x3 x4 (103 : Int32) u_4)))
set_option maxHeartbeats 4000000 in
set_option maxRecDepth 100000 in
theorem vb_X9_line_82 {p : Program} {l : Launch} {e : Env} {s : State} {m : MethodId} {args : Array Value} {below : List Frame} {meth : Method} {c : Code} {g : GE} {W : MU × ((Nat → Int64) × (Nat → UInt64))} {Q : Int32 → MU → Prop} (C : zCx p l s m args meth c g RX9 cX9_line 6) (hr : meth.sig.returnType = (Option.some Jvm.ClassFile.FieldType.int)) {L34 : Int32 → Int32 → MU → Prop} (hL34 : ∀ (x2 : Int32) (x3 : Int32) (u : MU), L34 x2 x3 u → WM p l e rm_X9_line s m args below meth c g 6 0 0 (MQ below (zQi g (zPx W Q)) args s 0 0 (zA g)) 34 [(0, .ref (g.2.2.1 0)), (1, .ref (g.2.2.1 6)), (2, .int x2), (3, .int x3)] [] (u, W)) (x2 : Int32) (x3 : Int32) (x4 : Int32) (s0 : Int32) (u : MU) (h : wb_X9_line_82 L34  Q x2 x3 x4 s0 u) : WM p l e rm_X9_line s m args below meth c g 6 0 0 (MQ below (zQi g (zPx W Q)) args s 0 0 (zA g)) 82 [(0, .ref (g.2.2.1 0)), (1, .ref (g.2.2.1 6)), (2, .int x2), (3, .int x3), (4, .int x4)] [.int s0] (u, W) := by
  unfold wb_X9_line_82 at h
  refine zm_istore (lv' := [(5, .int s0), (0, .ref (g.2.2.1 0)), (1, .ref (g.2.2.1 6)), (2, .int x2), (3, .int x3), (4, .int x4)]) C dX9_line_82 (by decide) rfl ?_
  refine zm_aload_n C dX9_line_84 rfl 1 rfl ?_
  refine gf_RX9_60 (k1 := 110) C kd_0 rfl dX9_line_85 ?_
  refine zm_bipush (v := 48) C dX9_line_88 (by decide) ?_
  refine zm_iload C dX9_line_90 5 rfl ?_
  refine zm_ci (zr_S (As := [.int x4]) (rest := [.int (48 : Int32), .ref (g.2.2.1 110)]) C (c_X9_fromOf l g (u, W) x4 h) wd_817 wd_663 wd_1 wd_664 hy_X9_fromOf rfl rfl ⟨by decide, by decide⟩ ⟨by decide, by decide⟩ rfl rfl (Nat.le_of_ble_eq_true rfl) dX9_line_92) (fun r_1 M1 hq => ?_)
  obtain ⟨rfl, h⟩ := hq
  refine zm_iadd C dX9_line_95 ?_
  refine zm_i2c C dX9_line_96 ?_
  refine zm_cv (zr_V (As := [.int (((48 : Int32) + r_1).toUInt32 % 65536).toInt32]) (rest := []) C (c_X8_add l g u W 110 kd_110 ((((48 : Int32) + r_1).toUInt32 % 65536).toInt32) h) wd_728 wd_729 wd_730 wd_8 wd_731 hy_X8_add rfl rfl ⟨by decide, by decide⟩ ⟨by decide, by decide⟩ (ci := 8) (by decide) (zCell_k kd_110) rfl rfl rfl rfl (Nat.le_of_ble_eq_true rfl) dX9_line_97) (fun M1 hq => ?_)
  obtain ⟨u_4, rfl, h⟩ := hq
  refine zm_aload_n C dX9_line_100 rfl 1 rfl ?_
  refine gf_RX9_60 (k1 := 110) C kd_0 rfl dX9_line_101 ?_
  refine zm_iload C dX9_line_104 0 rfl ?_
  refine zm_if_eq (tgt := 114) C dX9_line_106 (by decide) (fun hc_5 => ?_) (fun hc_5 => ?_)
  · have h := h.1 hc_5
    refine zm_bipush (v := 102) C dX9_line_114 (by decide) ?_
    exact zm_sub [1, 2, 3, 4, 5] rfl (vb_X9_line_116 C hr hL34 _ _ _ _ _ h)
  · have h := h.2 hc_5
    refine zm_bipush (v := 103) C dX9_line_109 (by decide) ?_
    refine zm_goto (tgt := 116) C dX9_line_111 (by decide) ?_
    exact zm_sub [1, 2, 3, 4, 5] rfl (vb_X9_line_116 C hr hL34 _ _ _ _ _ h)
def wb_X9_line_52 (L34 : Int32 → Int32 → MU → Prop) (Q : Int32 → MU → Prop) (x2 : Int32) (x3 : Int32) (u : MU) : Prop := w_X9_at 8 u x3 (fun r_1 => w_X9_at 7 u x3 (fun r_3 => w_X9_turnOf r_3 (fun r_5 => ((¬ r_5 = (1 : Int32)) → wb_X9_line_82 L34  Q x2 x3 r_1 (0 : Int32) u) ∧ ((r_5 = (1 : Int32)) → wb_X9_line_82 L34  Q x2 x3 r_1 (1 : Int32) u))))
set_option maxHeartbeats 4000000 in
set_option maxRecDepth 100000 in
theorem vb_X9_line_52 {p : Program} {l : Launch} {e : Env} {s : State} {m : MethodId} {args : Array Value} {below : List Frame} {meth : Method} {c : Code} {g : GE} {W : MU × ((Nat → Int64) × (Nat → UInt64))} {Q : Int32 → MU → Prop} (C : zCx p l s m args meth c g RX9 cX9_line 6) (hr : meth.sig.returnType = (Option.some Jvm.ClassFile.FieldType.int)) {L34 : Int32 → Int32 → MU → Prop} (hL34 : ∀ (x2 : Int32) (x3 : Int32) (u : MU), L34 x2 x3 u → WM p l e rm_X9_line s m args below meth c g 6 0 0 (MQ below (zQi g (zPx W Q)) args s 0 0 (zA g)) 34 [(0, .ref (g.2.2.1 0)), (1, .ref (g.2.2.1 6)), (2, .int x2), (3, .int x3)] [] (u, W)) (x2 : Int32) (x3 : Int32) (u : MU) (h : wb_X9_line_52 L34  Q x2 x3 u) : WM p l e rm_X9_line s m args below meth c g 6 0 0 (MQ below (zQi g (zPx W Q)) args s 0 0 (zA g)) 52 [(0, .ref (g.2.2.1 0)), (1, .ref (g.2.2.1 6)), (2, .int x2), (3, .int x3)] [] (u, W) := by
  unfold wb_X9_line_52 at h
  refine zm_aload_n C dX9_line_52 rfl 1 rfl ?_
  refine gf_RX9_377 (k1 := 8) C kd_6 rfl dX9_line_53 ?_
  refine zm_iload_n C dX9_line_56 rfl 3 rfl ?_
  refine zm_ci (zr_S (As := [.ref (g.2.2.1 8), .int x3]) (rest := []) C (c_X9_at l g u W 8 kd_8 x3 h) wd_576 wd_473 wd_1 wd_474 hy_X9_at rfl rfl ⟨by decide, by decide⟩ ⟨by decide, by decide⟩ rfl rfl (Nat.le_of_ble_eq_true rfl) dX9_line_57) (fun r_1 M1 hq => ?_)
  obtain ⟨rfl, h⟩ := hq
  refine zm_istore (lv' := [(4, .int r_1), (0, .ref (g.2.2.1 0)), (1, .ref (g.2.2.1 6)), (2, .int x2), (3, .int x3)]) C dX9_line_60 (by decide) rfl ?_
  refine zm_aload_n C dX9_line_62 rfl 2 rfl ?_
  refine gf_RX9_380 (k1 := 7) C kd_6 rfl dX9_line_63 ?_
  refine zm_iload_n C dX9_line_66 rfl 4 rfl ?_
  refine zm_ci (zr_S (As := [.ref (g.2.2.1 7), .int x3]) (rest := []) C (c_X9_at l g u W 7 kd_7 x3 h) wd_576 wd_473 wd_1 wd_474 hy_X9_at rfl rfl ⟨by decide, by decide⟩ ⟨by decide, by decide⟩ rfl rfl (Nat.le_of_ble_eq_true rfl) dX9_line_67) (fun r_3 M1 hq => ?_)
  obtain ⟨rfl, h⟩ := hq
  refine zm_ci (zr_S (As := [.int r_3]) (rest := []) C (c_X9_turnOf l g (u, W) r_3 h) wd_674 wd_629 wd_1 wd_630 hy_X9_turnOf rfl rfl ⟨by decide, by decide⟩ ⟨by decide, by decide⟩ rfl rfl (Nat.le_of_ble_eq_true rfl) dX9_line_70) (fun r_5 M1 hq => ?_)
  obtain ⟨rfl, h⟩ := hq
  refine zm_iconst (v := 1) C dX9_line_73 (by decide) ?_
  refine zm_icmp_ne (tgt := 81) C dX9_line_74 (by decide) (fun hc_7 => ?_) (fun hc_7 => ?_)
  · have h := h.1 hc_7
    refine zm_iconst (v := 0) C dX9_line_81 (by decide) ?_
    exact zm_sub [1, 2, 3, 4, 0] rfl (vb_X9_line_82 C hr hL34 _ _ _ _ _ h)
  · have h := h.2 hc_7
    refine zm_iconst (v := 1) C dX9_line_77 (by decide) ?_
    refine zm_goto (tgt := 82) C dX9_line_78 (by decide) ?_
    exact zm_sub [1, 2, 3, 4, 0] rfl (vb_X9_line_82 C hr hL34 _ _ _ _ _ h)
def wl_X9_line_34 (Q : Int32 → MU → Prop) : Nat → Int32 → Int32 → MU → Prop
  | 0, _, _, _ => False
  | n + 1, x2, x3, u => ((x2 ≤ x3) → Q (u 110 0) u) ∧ ((¬ x2 ≤ x3) → ((x3 ≤ 0) → wb_X9_line_52 (fun x2' x3' u' => wl_X9_line_34  Q n x2' x3' u')  Q x2 x3 u) ∧ ((¬ x3 ≤ 0) → w_X8_add 110 (32 : Int32) u (fun u_4 => wb_X9_line_52 (fun x2' x3' u' => wl_X9_line_34  Q n x2' x3' u')  Q x2 x3 u_4)))
set_option maxHeartbeats 4000000 in
set_option maxRecDepth 100000 in
theorem vl_X9_line_34 {p : Program} {l : Launch} {e : Env} {s : State} {m : MethodId} {args : Array Value} {below : List Frame} {meth : Method} {c : Code} {g : GE} {W : MU × ((Nat → Int64) × (Nat → UInt64))} {Q : Int32 → MU → Prop} (C : zCx p l s m args meth c g RX9 cX9_line 6) (hr : meth.sig.returnType = (Option.some Jvm.ClassFile.FieldType.int)) : ∀ (n : Nat) (x2 : Int32) (x3 : Int32) (u : MU) , wl_X9_line_34   Q n x2 x3 u → WM p l e rm_X9_line s m args below meth c g 6 0 0 (MQ below (zQi g (zPx W Q)) args s 0 0 (zA g)) 34 [(0, .ref (g.2.2.1 0)), (1, .ref (g.2.2.1 6)), (2, .int x2), (3, .int x3)] [] (u, W) := by
  intro n
  induction n with
  | zero => intro _ _ _ h; exact h.elim
  | succ n ih =>
    intro x2 x3 u h
    unfold wl_X9_line_34 at h
    refine zm_iload_n C dX9_line_34 rfl 3 rfl ?_
    refine zm_iload_n C dX9_line_35 rfl 2 rfl ?_
    refine zm_icmp_ge (tgt := 141) C dX9_line_36 (by decide) (fun hc_1 => ?_) (fun hc_1 => ?_)
    · have h := h.1 hc_1
      refine zm_aload_n C dX9_line_141 rfl 0 rfl ?_
      refine gf_RX9_60 (k1 := 110) C kd_0 rfl dX9_line_142 ?_
      refine gf_RX9_333 C kd_110 dX9_line_145 ?_
      exact zm_iret C hr dX9_line_148 ⟨_, rfl, h⟩
    · have h := h.2 hc_1
      refine zm_iload_n C dX9_line_39 rfl 3 rfl ?_
      refine zm_if_le (tgt := 52) C dX9_line_40 (by decide) (fun hc_2 => ?_) (fun hc_2 => ?_)
      · have h := h.1 hc_2
        exact zm_sub [0, 1, 2, 3] rfl (vb_X9_line_52 C hr ih _ _ _ h)
      · have h := h.2 hc_2
        refine zm_aload_n C dX9_line_43 rfl 0 rfl ?_
        refine gf_RX9_60 (k1 := 110) C kd_0 rfl dX9_line_44 ?_
        refine zm_bipush (v := 32) C dX9_line_47 (by decide) ?_
        refine zm_cv (zr_V (As := [.int (32 : Int32)]) (rest := []) C (c_X8_add l g u W 110 kd_110 (32 : Int32) h) wd_728 wd_729 wd_730 wd_8 wd_731 hy_X8_add rfl rfl ⟨by decide, by decide⟩ ⟨by decide, by decide⟩ (ci := 8) (by decide) (zCell_k kd_110) rfl rfl rfl rfl (Nat.le_of_ble_eq_true rfl) dX9_line_49) (fun M1 hq => ?_)
        obtain ⟨u_4, rfl, h⟩ := hq
        exact zm_sub [0, 1, 2, 3] rfl (vb_X9_line_52 C hr ih _ _ _ h)
def wb_X9_line_31 (Q : Int32 → MU → Prop) (s0 : Int32) (u : MU) : Prop := ∃ nn, wl_X9_line_34   Q nn s0 (0 : Int32) u
set_option maxHeartbeats 4000000 in
set_option maxRecDepth 100000 in
theorem vb_X9_line_31 {p : Program} {l : Launch} {e : Env} {s : State} {m : MethodId} {args : Array Value} {below : List Frame} {meth : Method} {c : Code} {g : GE} {W : MU × ((Nat → Int64) × (Nat → UInt64))} {Q : Int32 → MU → Prop} (C : zCx p l s m args meth c g RX9 cX9_line 6) (hr : meth.sig.returnType = (Option.some Jvm.ClassFile.FieldType.int)) (s0 : Int32) (u : MU) (h : wb_X9_line_31   Q s0 u) : WM p l e rm_X9_line s m args below meth c g 6 0 0 (MQ below (zQi g (zPx W Q)) args s 0 0 (zA g)) 31 [(0, .ref (g.2.2.1 0)), (1, .ref (g.2.2.1 6))] [.int s0] (u, W) := by
  unfold wb_X9_line_31 at h
  refine zm_istore_n (lv' := [(2, .int s0), (0, .ref (g.2.2.1 0)), (1, .ref (g.2.2.1 6))]) C dX9_line_31 rfl (by decide) rfl ?_
  refine zm_iconst (v := 0) C dX9_line_32 (by decide) ?_
  refine zm_istore_n (lv' := [(3, .int (0 : Int32)), (2, .int s0), (0, .ref (g.2.2.1 0)), (1, .ref (g.2.2.1 6))]) C dX9_line_33 rfl (by decide) rfl ?_
  obtain ⟨nn, h⟩ := h
  exact zm_sub [2, 3, 1, 0] rfl (vl_X9_line_34 C hr  nn _ _ _ h)
def w_X9_line (u : MU) (Q : Int32 → MU → Prop) : Prop := (∀ u_1, u_1 = u2 u 110 0 (0 : Int32) → (((u_1 6 0) = 0) → wb_X9_line_31   Q (0 : Int32) u_1) ∧ ((¬ (u_1 6 0) = 0) → wb_X9_line_31   Q (u_1 6 1) u_1))
set_option maxHeartbeats 4000000 in
set_option maxRecDepth 100000 in
theorem c_X9_line (l : Launch) (g : GE) (u : MU) (W : MU × ((Nat → Int64) × (Nat → UInt64))) {Q : Int32 → MU → Prop} (h : w_X9_line u Q) : Met l yX9_line (.code yX9_line cX9_line 6 (Option.some Jvm.ClassFile.FieldType.int) :: TB) rm_X9_line (zPc g (u, W) [.ref (g.2.2.1 0)]) (zQi g (zPx W Q)) 0 0 (zA g) := by
  unfold w_X9_line at h
  refine zMet (own := RX9) [(0, .ref (g.2.2.1 0))] (by decide +kernel) rfl (Nat.le_of_ble_eq_true rfl) rfl (fun p e s m args below meth c C hr => ?_)
  refine zm_aload_n C dX9_line_0 rfl 0 rfl ?_
  refine gf_RX9_60 (k1 := 110) C kd_0 rfl dX9_line_1 ?_
  refine zm_iconst (v := 0) C dX9_line_4 (by decide) ?_
  refine pf_RX9_333 C kd_110  dX9_line_5 (fun u_1 hu_1 => ?_)
  have h := h u_1 hu_1
  refine zm_aload_n C dX9_line_8 rfl 0 rfl ?_
  refine gf_RX9_10 (k1 := 1) C kd_0 rfl dX9_line_9 ?_
  refine gf_RX9_118 (k1 := 6) C kd_1 rfl dX9_line_12 ?_
  refine zm_astore_n (lv' := [(1, .ref (g.2.2.1 6)), (0, .ref (g.2.2.1 0))]) C dX9_line_15 rfl (by decide) rfl ?_
  refine zm_aload_n C dX9_line_16 rfl 0 rfl ?_
  refine gf_RX9_122 C kd_6 dX9_line_17 ?_
  refine zm_if_eq (tgt := 30) C dX9_line_20 (by decide) (fun hc_2 => ?_) (fun hc_2 => ?_)
  · have h := h.1 hc_2
    refine zm_iconst (v := 0) C dX9_line_30 (by decide) ?_
    exact zm_sub [1, 0] rfl (vb_X9_line_31 C hr  _ _ h)
  · have h := h.2 hc_2
    refine zm_aload_n C dX9_line_23 rfl 0 rfl ?_
    refine gf_RX9_325 C kd_6 dX9_line_24 ?_
    refine zm_goto (tgt := 31) C dX9_line_27 (by decide) ?_
    exact zm_sub [1, 0] rfl (vb_X9_line_31 C hr  _ _ h)
abbrev rm_X9_character : Room := { frames := 6, cells := 1, slots := 6, locals := 90 }
def wb_X9_character_15 (Q : Int32 → MU → Prop) (X : String → MU → Prop) (u : MU) : Prop := X "java/lang/IndexOutOfBoundsException" u
set_option maxHeartbeats 4000000 in
set_option maxRecDepth 100000 in
theorem vb_X9_character_15 {p : Program} {l : Launch} {e : Env} {s : State} {m : MethodId} {args : Array Value} {below : List Frame} {meth : Method} {c : Code} {g : GE} {W : MU × ((Nat → Int64) × (Nat → UInt64))} {Q : Int32 → MU → Prop} {X : String → MU → Prop} (C : zCx p l s m args meth c g RX9 cX9_character 2) (hr : meth.sig.returnType = (Option.some Jvm.ClassFile.FieldType.char)) (hstk : l.stackTraces = false) (ht : ∀ x ∈ c.exceptionTable.toList, False) (u : MU) (h : wb_X9_character_15   Q X  u) : WM p l e rm_X9_character s m args below meth c g 2 0 0 (vx_MQ below (zQi g (zPx W Q)) (zXC g (zXx W X)) args s 1 6 (zA g)) 15 [] [] (u, W) := by
  unfold wb_X9_character_15 at h
  exact zm_throwW (names := ["java/lang/RuntimeException", "java/lang/Exception"]) C hstk fit_IndexOutOfBoundsException fit_names wd_547 wd_23 (is := 383) (text := "there is no such index") (by decide) hat_IndexOutOfBoundsException_249 hgd_IndexOutOfBoundsException_249_245 dX9_character_15 dX9_character_18 dX9_character_19 dX9_character_22 dX9_character_25 ht (Nat.le_of_ble_eq_true rfl) (Nat.le_of_ble_eq_true rfl) (Nat.le_of_ble_eq_true rfl) (Nat.le_of_ble_eq_true rfl) (Nat.le_of_ble_eq_true rfl) (Nat.le_of_ble_eq_true rfl) ⟨_, rfl, h⟩
def w_X9_character (x1 : Int32) (u : MU) (Q : Int32 → MU → Prop) (X : String → MU → Prop) : Prop := ((x1 < 0) → wb_X9_character_15   Q X u) ∧ ((¬ x1 < 0) → ((x1 < (u 110 0)) → w_X8_sign 110 u x1 (fun r_3 => narrow .char (.int r_3) = .int r_3 ∧ Q r_3 u)) ∧ ((¬ x1 < (u 110 0)) → wb_X9_character_15   Q X u))
set_option maxHeartbeats 4000000 in
set_option maxRecDepth 100000 in
theorem c_X9_character (l : Launch) (hstk : l.stackTraces = false) (g : GE) (u : MU) (W : MU × ((Nat → Int64) × (Nat → UInt64))) (x1 : Int32) {Q : Int32 → MU → Prop} {X : String → MU → Prop} (h : w_X9_character x1 u Q X) : vx_Met l yX9_character (.code yX9_character cX9_character 2 (Option.some Jvm.ClassFile.FieldType.char) :: TB) rm_X9_character (zPc g (u, W) [.ref (g.2.2.1 0), .int x1]) (zQi g (zPx W Q)) (zXC g (zXx W X)) 1 6 (zA g) := by
  unfold w_X9_character at h
  refine zMetX (own := RX9) [(0, .ref (g.2.2.1 0)), (1, .int x1)] (by decide +kernel) rfl (Nat.le_of_ble_eq_true rfl) rfl (fun p e s m args below meth c C hr ht => ?_)
  refine zm_iload_n C dX9_character_0 rfl 1 rfl ?_
  refine zm_if_lt (tgt := 15) C dX9_character_1 (by decide) (fun hc_1 => ?_) (fun hc_1 => ?_)
  · have h := h.1 hc_1
    exact zm_sub [] rfl (vb_X9_character_15 C hr hstk ht  _ h)
  · have h := h.2 hc_1
    refine zm_iload_n C dX9_character_4 rfl 1 rfl ?_
    refine zm_aload_n C dX9_character_5 rfl 0 rfl ?_
    refine gf_RX9_60 (k1 := 110) C kd_0 rfl dX9_character_6 ?_
    refine gf_RX9_333 C kd_110 dX9_character_9 ?_
    refine zm_icmp_lt (tgt := 26) C dX9_character_12 (by decide) (fun hc_2 => ?_) (fun hc_2 => ?_)
    · have h := h.1 hc_2
      refine zm_aload_n C dX9_character_26 rfl 0 rfl ?_
      refine gf_RX9_60 (k1 := 110) C kd_0 rfl dX9_character_27 ?_
      refine zm_iload_n C dX9_character_30 rfl 1 rfl ?_
      refine zm_ci (zr_V (As := [.int x1]) (rest := []) C (c_X8_sign l g u W 110 kd_110 x1 h) wd_1067 wd_748 wd_749 wd_8 wd_750 hy_X8_sign rfl rfl ⟨by decide, by decide⟩ ⟨by decide, by decide⟩ (ci := 8) (by decide) (zCell_k kd_110) rfl rfl rfl rfl (Nat.le_of_ble_eq_true rfl) dX9_character_31) (fun r_3 M1 hq => ?_)
      obtain ⟨rfl, h⟩ := hq
      obtain ⟨hg_5, h⟩ := h
      refine zm_vx (by decide) (by decide) ?_
      exact zm_zret (ty := .char) C hr hg_5 dX9_character_34 ⟨_, rfl, h⟩
    · have h := h.2 hc_2
      exact zm_sub [] rfl (vb_X9_character_15 C hr hstk ht  _ h)
abbrev rm_X9_undo : Room := { frames := 6, cells := 1, slots := 6, locals := 286 }
def w_X9_undo (u : MU) (Q : Int32 → MU → Prop) (X : String → MU → Prop) : Prop := ((¬ (u 25 1) = 0) → w_X0_takeInto 1 u (fun u_3 => Q (u_3 25 1) u_3)) ∧ (((u 25 1) = 0) → X "java/lang/IllegalStateException" u)
set_option maxHeartbeats 4000000 in
set_option maxRecDepth 100000 in
theorem c_X9_undo (l : Launch) (hstk : l.stackTraces = false) (g : GE) (u : MU) (W : MU × ((Nat → Int64) × (Nat → UInt64))) {Q : Int32 → MU → Prop} {X : String → MU → Prop} (h : w_X9_undo u Q X) : vx_Met l yX9_undo (.code yX9_undo cX9_undo 1 (Option.some Jvm.ClassFile.FieldType.int) :: TB) rm_X9_undo (zPc g (u, W) [.ref (g.2.2.1 0)]) (zQi g (zPx W Q)) (zXC g (zXx W X)) 1 6 (zA g) := by
  unfold w_X9_undo at h
  refine zMetX (own := RX9) [(0, .ref (g.2.2.1 0))] (by decide +kernel) rfl (Nat.le_of_ble_eq_true rfl) rfl (fun p e s m args below meth c C hr ht => ?_)
  refine zm_aload_n C dX9_undo_0 rfl 0 rfl ?_
  refine gf_RX9_25 (k1 := 25) C kd_0 rfl dX9_undo_1 ?_
  refine gf_RX9_331 C kd_25 dX9_undo_4 ?_
  refine zm_if_ne (tgt := 21) C dX9_undo_7 (by decide) (fun hc_1 => ?_) (fun hc_1 => ?_)
  · have h := h.1 hc_1
    refine zm_aload_n C dX9_undo_21 rfl 0 rfl ?_
    refine gf_RX9_25 (k1 := 25) C kd_0 rfl dX9_undo_22 ?_
    refine zm_aload_n C dX9_undo_25 rfl 0 rfl ?_
    refine gf_RX9_10 (k1 := 1) C kd_0 rfl dX9_undo_26 ?_
    refine zm_cv (zr_V (As := [.ref (g.2.2.1 1)]) (rest := []) C (c_X0_takeInto l g u W 1 kd_1 h) wd_851 wd_852 wd_853 wd_5 wd_854 hy_X0_takeInto rfl rfl ⟨by decide, by decide⟩ ⟨by decide, by decide⟩ (ci := 0) (by decide) (zCell_k kd_25) rfl rfl rfl rfl (Nat.le_of_ble_eq_true rfl) dX9_undo_29) (fun M1 hq => ?_)
    obtain ⟨u_3, rfl, h⟩ := hq
    refine zm_aload_n C dX9_undo_32 rfl 0 rfl ?_
    refine gf_RX9_25 (k1 := 25) C kd_0 rfl dX9_undo_33 ?_
    refine gf_RX9_331 C kd_25 dX9_undo_36 ?_
    refine zm_vx (by decide) (by decide) ?_
    exact zm_iret C hr dX9_undo_39 ⟨_, rfl, h⟩
  · have h := h.2 hc_1
    exact zm_throwW (names := ["java/lang/RuntimeException", "java/lang/Exception"]) C hstk fit_IllegalStateException fit_names wd_712 wd_14 (is := 389) (text := "there is nothing to undo") (by decide) hat_IllegalStateException_343 hgd_IllegalStateException_343_339 dX9_undo_10 dX9_undo_13 dX9_undo_14 dX9_undo_17 dX9_undo_20 ht (Nat.le_of_ble_eq_true rfl) (Nat.le_of_ble_eq_true rfl) (Nat.le_of_ble_eq_true rfl) (Nat.le_of_ble_eq_true rfl) (Nat.le_of_ble_eq_true rfl) (Nat.le_of_ble_eq_true rfl) ⟨_, rfl, h⟩
abbrev rm_X9_save : Room := { frames := 4, cells := 0, slots := 0, locals := 263 }
def w_X9_save (u : MU) (Q : Int32 → MU → Prop) : Prop := w_X6_become 17 1 u (fun u_2 => (∀ u_3, u_3 = u2 u_2 0 3 (1 : Int32) → Q (u_3 2 0) u_3))
set_option maxHeartbeats 4000000 in
set_option maxRecDepth 100000 in
theorem c_X9_save (l : Launch) (g : GE) (u : MU) (W : MU × ((Nat → Int64) × (Nat → UInt64))) {Q : Int32 → MU → Prop} (h : w_X9_save u Q) : Met l yX9_save (.code yX9_save cX9_save 1 (Option.some Jvm.ClassFile.FieldType.int) :: TB) rm_X9_save (zPc g (u, W) [.ref (g.2.2.1 0)]) (zQi g (zPx W Q)) 0 0 (zA g) := by
  unfold w_X9_save at h
  refine zMet (own := RX9) [(0, .ref (g.2.2.1 0))] (by decide +kernel) rfl (Nat.le_of_ble_eq_true rfl) rfl (fun p e s m args below meth c C hr => ?_)
  refine zm_aload_n C dX9_save_0 rfl 0 rfl ?_
  refine gf_RX9_19 (k1 := 17) C kd_0 rfl dX9_save_1 ?_
  refine zm_aload_n C dX9_save_4 rfl 0 rfl ?_
  refine gf_RX9_10 (k1 := 1) C kd_0 rfl dX9_save_5 ?_
  refine zm_cv (zr_V (As := [.ref (g.2.2.1 1)]) (rest := []) C (c_X6_become l g u W 17 1 kd_17 kd_1 h) wd_310 wd_311 wd_312 wd_2 wd_313 hy_X6_become rfl rfl ⟨by decide, by decide⟩ ⟨by decide, by decide⟩ (ci := 6) (by decide) (zCell_k kd_17) rfl rfl rfl rfl (Nat.le_of_ble_eq_true rfl) dX9_save_8) (fun M1 hq => ?_)
  obtain ⟨u_2, rfl, h⟩ := hq
  refine zm_aload_n C dX9_save_11 rfl 0 rfl ?_
  refine zm_iconst (v := 1) C dX9_save_12 (by decide) ?_
  refine pf_RX9_397 C kd_0 (by decide) (by decide) dX9_save_13 (fun u_3 hu_3 => ?_)
  have h := h u_3 hu_3
  refine zm_aload_n C dX9_save_16 rfl 0 rfl ?_
  refine gf_RX9_10 (k1 := 1) C kd_0 rfl dX9_save_17 ?_
  refine gf_RX9_138 (k1 := 2) C kd_1 rfl dX9_save_20 ?_
  refine gf_RX9_265 C kd_2 dX9_save_23 ?_
  exact zm_iret C hr dX9_save_26 ⟨_, rfl, h⟩
abbrev rm_X9_restore : Room := { frames := 6, cells := 1, slots := 6, locals := 263 }
def w_X9_restore (u : MU) (Q : Int32 → MU → Prop) (X : String → MU → Prop) : Prop := ((¬ (u 0 3) = 0) → w_X6_become 1 17 u (fun u_3 => (∀ u_4, u_4 = u2 u_3 25 1 (0 : Int32) → Q (u_4 2 0) u_4))) ∧ (((u 0 3) = 0) → X "java/lang/IllegalStateException" u)
set_option maxHeartbeats 4000000 in
set_option maxRecDepth 100000 in
theorem c_X9_restore (l : Launch) (hstk : l.stackTraces = false) (g : GE) (u : MU) (W : MU × ((Nat → Int64) × (Nat → UInt64))) {Q : Int32 → MU → Prop} {X : String → MU → Prop} (h : w_X9_restore u Q X) : vx_Met l yX9_restore (.code yX9_restore cX9_restore 1 (Option.some Jvm.ClassFile.FieldType.int) :: TB) rm_X9_restore (zPc g (u, W) [.ref (g.2.2.1 0)]) (zQi g (zPx W Q)) (zXC g (zXx W X)) 1 6 (zA g) := by
  unfold w_X9_restore at h
  refine zMetX (own := RX9) [(0, .ref (g.2.2.1 0))] (by decide +kernel) rfl (Nat.le_of_ble_eq_true rfl) rfl (fun p e s m args below meth c C hr ht => ?_)
  refine zm_aload_n C dX9_restore_0 rfl 0 rfl ?_
  refine gf_RX9_397 C kd_0 dX9_restore_1 ?_
  refine zm_if_ne (tgt := 18) C dX9_restore_4 (by decide) (fun hc_1 => ?_) (fun hc_1 => ?_)
  · have h := h.1 hc_1
    refine zm_aload_n C dX9_restore_18 rfl 0 rfl ?_
    refine gf_RX9_10 (k1 := 1) C kd_0 rfl dX9_restore_19 ?_
    refine zm_aload_n C dX9_restore_22 rfl 0 rfl ?_
    refine gf_RX9_19 (k1 := 17) C kd_0 rfl dX9_restore_23 ?_
    refine zm_cv (zr_V (As := [.ref (g.2.2.1 17)]) (rest := []) C (c_X6_become l g u W 1 17 kd_1 kd_17 h) wd_310 wd_311 wd_312 wd_2 wd_313 hy_X6_become rfl rfl ⟨by decide, by decide⟩ ⟨by decide, by decide⟩ (ci := 6) (by decide) (zCell_k kd_1) rfl rfl rfl rfl (Nat.le_of_ble_eq_true rfl) dX9_restore_26) (fun M1 hq => ?_)
    obtain ⟨u_3, rfl, h⟩ := hq
    refine zm_aload_n C dX9_restore_29 rfl 0 rfl ?_
    refine gf_RX9_25 (k1 := 25) C kd_0 rfl dX9_restore_30 ?_
    refine zm_iconst (v := 0) C dX9_restore_33 (by decide) ?_
    refine pf_RX9_331 C kd_25  dX9_restore_34 (fun u_4 hu_4 => ?_)
    have h := h u_4 hu_4
    refine zm_aload_n C dX9_restore_37 rfl 0 rfl ?_
    refine gf_RX9_10 (k1 := 1) C kd_0 rfl dX9_restore_38 ?_
    refine gf_RX9_138 (k1 := 2) C kd_1 rfl dX9_restore_41 ?_
    refine gf_RX9_265 C kd_2 dX9_restore_44 ?_
    refine zm_vx (by decide) (by decide) ?_
    exact zm_iret C hr dX9_restore_47 ⟨_, rfl, h⟩
  · have h := h.2 hc_1
    exact zm_throwW (names := ["java/lang/RuntimeException", "java/lang/Exception"]) C hstk fit_IllegalStateException fit_names wd_712 wd_14 (is := 400) (text := "there is no snapshot") (by decide) hat_IllegalStateException_343 hgd_IllegalStateException_343_339 dX9_restore_7 dX9_restore_10 dX9_restore_11 dX9_restore_14 dX9_restore_17 ht (Nat.le_of_ble_eq_true rfl) (Nat.le_of_ble_eq_true rfl) (Nat.le_of_ble_eq_true rfl) (Nat.le_of_ble_eq_true rfl) (Nat.le_of_ble_eq_true rfl) (Nat.le_of_ble_eq_true rfl) ⟨_, rfl, h⟩
