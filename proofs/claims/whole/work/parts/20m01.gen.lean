abbrev rm_X10_bestPlace : Room := { frames := 3, cells := 0, slots := 0, locals := 66 }
def wb_X10_bestPlace_176 (L9 : Int32 → Int32 → Int32 → MU → Prop) (Q : Int32 → MU → Prop) (x1 : Int32) (x2 : Int32) (x3 : Int32) (u : MU) : Prop := ∀ x3_1, x3_1 = x3 + (1 : Int32) → L9 x1 x2 x3_1 u
set_option maxHeartbeats 4000000 in
set_option maxRecDepth 100000 in
theorem vb_X10_bestPlace_176 {p : Program} {l : Launch} {e : Env} {s : State} {m : MethodId} {args : Array Value} {below : List Frame} {meth : Method} {c : Code} {g : GE} {U : MU} {W : (Nat → Int64) × (Nat → UInt64)} {Q : Int32 → MU → Prop} (C : zCx p l s m args meth c g RX10 cX10_bestPlace 7) (hr : meth.sig.returnType = (Option.some Jvm.ClassFile.FieldType.int)) {L9 : Int32 → Int32 → Int32 → MU → Prop} (hL9 : ∀ (x1 : Int32) (x2 : Int32) (x3 : Int32) (u : MU), L9 x1 x2 x3 u → WM p l e rm_X10_bestPlace s m args below meth c g 7 0 0 (MQ below (zQi g (zPm U W Q)) args s 0 0 (zA g)) 9 [(0, .ref (g.2.2.1 117)), (1, .int x1), (2, .int x2), (3, .int x3)] [] (U, u, W)) (x1 : Int32) (x2 : Int32) (x3 : Int32) (u : MU) (h : wb_X10_bestPlace_176 L9  Q x1 x2 x3 u) : WM p l e rm_X10_bestPlace s m args below meth c g 7 0 0 (MQ below (zQi g (zPm U W Q)) args s 0 0 (zA g)) 176 [(0, .ref (g.2.2.1 117)), (1, .int x1), (2, .int x2), (3, .int x3)] [] (U, u, W) := by
  unfold wb_X10_bestPlace_176 at h
  obtain ⟨x3_1, hx3_1⟩ : ∃ z, z = x3 + (1 : Int32) := ⟨_, rfl⟩
  have h := h x3_1 hx3_1
  refine zm_iinc (v := x3_1) (lv' := [(3, .int x3_1), (0, .ref (g.2.2.1 117)), (1, .int x1), (2, .int x2)]) C dX10_bestPlace_176 3 rfl (by rw [hx3_1]; rfl) (by decide) rfl ?_
  refine zm_goto (tgt := 9) C dX10_bestPlace_179 (by decide) ?_
  exact zm_sub [1, 2, 3, 0] rfl (hL9 _ _ _ _ h)
def wb_X10_bestPlace_174 (L9 : Int32 → Int32 → Int32 → MU → Prop) (Q : Int32 → MU → Prop) (x1 : Int32) (x3 : Int32) (u : MU) : Prop := wb_X10_bestPlace_176 L9  Q x1 x3 x3 u
set_option maxHeartbeats 4000000 in
set_option maxRecDepth 100000 in
theorem vb_X10_bestPlace_174 {p : Program} {l : Launch} {e : Env} {s : State} {m : MethodId} {args : Array Value} {below : List Frame} {meth : Method} {c : Code} {g : GE} {U : MU} {W : (Nat → Int64) × (Nat → UInt64)} {Q : Int32 → MU → Prop} (C : zCx p l s m args meth c g RX10 cX10_bestPlace 7) (hr : meth.sig.returnType = (Option.some Jvm.ClassFile.FieldType.int)) {L9 : Int32 → Int32 → Int32 → MU → Prop} (hL9 : ∀ (x1 : Int32) (x2 : Int32) (x3 : Int32) (u : MU), L9 x1 x2 x3 u → WM p l e rm_X10_bestPlace s m args below meth c g 7 0 0 (MQ below (zQi g (zPm U W Q)) args s 0 0 (zA g)) 9 [(0, .ref (g.2.2.1 117)), (1, .int x1), (2, .int x2), (3, .int x3)] [] (U, u, W)) (x1 : Int32) (x3 : Int32) (u : MU) (h : wb_X10_bestPlace_174 L9  Q x1 x3 u) : WM p l e rm_X10_bestPlace s m args below meth c g 7 0 0 (MQ below (zQi g (zPm U W Q)) args s 0 0 (zA g)) 174 [(0, .ref (g.2.2.1 117)), (1, .int x1), (3, .int x3)] [] (U, u, W) := by
  unfold wb_X10_bestPlace_174 at h
  refine zm_iload_n C dX10_bestPlace_174 rfl 2 rfl ?_
  refine zm_istore_n (lv' := [(2, .int x3), (0, .ref (g.2.2.1 117)), (1, .int x1), (3, .int x3)]) C dX10_bestPlace_175 rfl (by decide) rfl ?_
  exact zm_sub [1, 2, 0, 3] rfl (vb_X10_bestPlace_176 C hr hL9 _ _ _ _ h)
def wb_X10_bestPlace_152 (L9 : Int32 → Int32 → Int32 → MU → Prop) (Q : Int32 → MU → Prop) (x1 : Int32) (x2 : Int32) (x3 : Int32) (x4 : Int32) (x6 : Int32) (u : MU) : Prop := vp_in x1 1296 ∧ (((¬ (u 126 (x1).toNatClampNeg) = (2 : Int32)) → wb_X10_bestPlace_176 L9  Q x1 x2 x3 u) ∧ (((u 126 (x1).toNatClampNeg) = (2 : Int32)) → vp_in x4 1296 ∧ ((((u 127 (x4).toNatClampNeg) ≤ x6) → wb_X10_bestPlace_176 L9  Q x1 x2 x3 u) ∧ ((¬ (u 127 (x4).toNatClampNeg) ≤ x6) → wb_X10_bestPlace_174 L9  Q x1 x3 u))))
set_option maxHeartbeats 4000000 in
set_option maxRecDepth 100000 in
theorem vb_X10_bestPlace_152 {p : Program} {l : Launch} {e : Env} {s : State} {m : MethodId} {args : Array Value} {below : List Frame} {meth : Method} {c : Code} {g : GE} {U : MU} {W : (Nat → Int64) × (Nat → UInt64)} {Q : Int32 → MU → Prop} (C : zCx p l s m args meth c g RX10 cX10_bestPlace 7) (hr : meth.sig.returnType = (Option.some Jvm.ClassFile.FieldType.int)) {L9 : Int32 → Int32 → Int32 → MU → Prop} (hL9 : ∀ (x1 : Int32) (x2 : Int32) (x3 : Int32) (u : MU), L9 x1 x2 x3 u → WM p l e rm_X10_bestPlace s m args below meth c g 7 0 0 (MQ below (zQi g (zPm U W Q)) args s 0 0 (zA g)) 9 [(0, .ref (g.2.2.1 117)), (1, .int x1), (2, .int x2), (3, .int x3)] [] (U, u, W)) (x1 : Int32) (x2 : Int32) (x3 : Int32) (x4 : Int32) (x6 : Int32) (u : MU) (h : wb_X10_bestPlace_152 L9  Q x1 x2 x3 x4 x6 u) : WM p l e rm_X10_bestPlace s m args below meth c g 7 0 0 (MQ below (zQi g (zPm U W Q)) args s 0 0 (zA g)) 152 [(0, .ref (g.2.2.1 117)), (1, .int x1), (2, .int x2), (3, .int x3), (4, .int x4), (6, .int x6)] [] (U, u, W) := by
  unfold wb_X10_bestPlace_152 at h
  refine zm_aload_n C dX10_bestPlace_152 rfl 0 rfl ?_
  refine gf_RX10_39 (k1 := 126) C kd_117 rfl dX10_bestPlace_153 ?_
  refine zm_iload_n C dX10_bestPlace_156 rfl 1 rfl ?_
  obtain ⟨hg_1, h⟩ := h
  refine zq_ld_m C kd_126 ln_126 hg_1 dX10_bestPlace_157 ?_
  refine zm_iconst (v := 2) C dX10_bestPlace_158 (by decide) ?_
  refine zm_icmp_ne (tgt := 176) C dX10_bestPlace_159 (by decide) (fun hc_2 => ?_) (fun hc_2 => ?_)
  · have h := h.1 hc_2
    exact zm_sub [0, 1, 2, 3] rfl (vb_X10_bestPlace_176 C hr hL9 _ _ _ _ h)
  · have h := h.2 hc_2
    refine zm_aload_n C dX10_bestPlace_162 rfl 0 rfl ?_
    refine gf_RX10_42 (k1 := 127) C kd_117 rfl dX10_bestPlace_163 ?_
    refine zm_iload C dX10_bestPlace_166 4 rfl ?_
    obtain ⟨hg_3, h⟩ := h
    refine zq_ld_m C kd_127 ln_127 hg_3 dX10_bestPlace_168 ?_
    refine zm_iload C dX10_bestPlace_169 5 rfl ?_
    refine zm_icmp_le (tgt := 176) C dX10_bestPlace_171 (by decide) (fun hc_4 => ?_) (fun hc_4 => ?_)
    · have h := h.1 hc_4
      exact zm_sub [0, 1, 2, 3] rfl (vb_X10_bestPlace_176 C hr hL9 _ _ _ _ h)
    · have h := h.2 hc_4
      exact zm_sub [0, 1, 3] rfl (vb_X10_bestPlace_174 C hr hL9 _ _ _ h)
def wb_X10_bestPlace_124 (L9 : Int32 → Int32 → Int32 → MU → Prop) (Q : Int32 → MU → Prop) (x1 : Int32) (x2 : Int32) (x3 : Int32) (x4 : Int32) (s0 : Int32) (u : MU) : Prop := ((x2 < 0) → wb_X10_bestPlace_174 L9  Q x1 x3 u) ∧ ((¬ x2 < 0) → vp_in x1 1296 ∧ (((¬ (u 126 (x1).toNatClampNeg) = (1 : Int32)) → wb_X10_bestPlace_152 L9  Q x1 x2 x3 x4 s0 u) ∧ (((u 126 (x1).toNatClampNeg) = (1 : Int32)) → vp_in x4 1296 ∧ ((((u 127 (x4).toNatClampNeg) < s0) → wb_X10_bestPlace_174 L9  Q x1 x3 u) ∧ ((¬ (u 127 (x4).toNatClampNeg) < s0) → wb_X10_bestPlace_152 L9  Q x1 x2 x3 x4 s0 u)))))
set_option maxHeartbeats 4000000 in
set_option maxRecDepth 100000 in
theorem vb_X10_bestPlace_124 {p : Program} {l : Launch} {e : Env} {s : State} {m : MethodId} {args : Array Value} {below : List Frame} {meth : Method} {c : Code} {g : GE} {U : MU} {W : (Nat → Int64) × (Nat → UInt64)} {Q : Int32 → MU → Prop} (C : zCx p l s m args meth c g RX10 cX10_bestPlace 7) (hr : meth.sig.returnType = (Option.some Jvm.ClassFile.FieldType.int)) {L9 : Int32 → Int32 → Int32 → MU → Prop} (hL9 : ∀ (x1 : Int32) (x2 : Int32) (x3 : Int32) (u : MU), L9 x1 x2 x3 u → WM p l e rm_X10_bestPlace s m args below meth c g 7 0 0 (MQ below (zQi g (zPm U W Q)) args s 0 0 (zA g)) 9 [(0, .ref (g.2.2.1 117)), (1, .int x1), (2, .int x2), (3, .int x3)] [] (U, u, W)) (x1 : Int32) (x2 : Int32) (x3 : Int32) (x4 : Int32) (s0 : Int32) (u : MU) (h : wb_X10_bestPlace_124 L9  Q x1 x2 x3 x4 s0 u) : WM p l e rm_X10_bestPlace s m args below meth c g 7 0 0 (MQ below (zQi g (zPm U W Q)) args s 0 0 (zA g)) 124 [(0, .ref (g.2.2.1 117)), (1, .int x1), (2, .int x2), (3, .int x3), (4, .int x4)] [.int s0] (U, u, W) := by
  unfold wb_X10_bestPlace_124 at h
  refine zm_istore (lv' := [(6, .int s0), (0, .ref (g.2.2.1 117)), (1, .int x1), (2, .int x2), (3, .int x3), (4, .int x4)]) C dX10_bestPlace_124 (by decide) rfl ?_
  refine zm_iload_n C dX10_bestPlace_126 rfl 3 rfl ?_
  refine zm_if_lt (tgt := 174) C dX10_bestPlace_127 (by decide) (fun hc_1 => ?_) (fun hc_1 => ?_)
  · have h := h.1 hc_1
    exact zm_sub [1, 2, 4] rfl (vb_X10_bestPlace_174 C hr hL9 _ _ _ h)
  · have h := h.2 hc_1
    refine zm_aload_n C dX10_bestPlace_130 rfl 1 rfl ?_
    refine gf_RX10_39 (k1 := 126) C kd_117 rfl dX10_bestPlace_131 ?_
    refine zm_iload_n C dX10_bestPlace_134 rfl 2 rfl ?_
    obtain ⟨hg_2, h⟩ := h
    refine zq_ld_m C kd_126 ln_126 hg_2 dX10_bestPlace_135 ?_
    refine zm_iconst (v := 1) C dX10_bestPlace_136 (by decide) ?_
    refine zm_icmp_ne (tgt := 152) C dX10_bestPlace_137 (by decide) (fun hc_3 => ?_) (fun hc_3 => ?_)
    · have h := h.1 hc_3
      exact zm_sub [1, 2, 3, 4, 5, 0] rfl (vb_X10_bestPlace_152 C hr hL9 _ _ _ _ _ _ h)
    · have h := h.2 hc_3
      refine zm_aload_n C dX10_bestPlace_140 rfl 1 rfl ?_
      refine gf_RX10_42 (k1 := 127) C kd_117 rfl dX10_bestPlace_141 ?_
      refine zm_iload C dX10_bestPlace_144 5 rfl ?_
      obtain ⟨hg_4, h⟩ := h
      refine zq_ld_m C kd_127 ln_127 hg_4 dX10_bestPlace_146 ?_
      refine zm_iload C dX10_bestPlace_147 0 rfl ?_
      refine zm_icmp_lt (tgt := 174) C dX10_bestPlace_149 (by decide) (fun hc_5 => ?_) (fun hc_5 => ?_)
      · have h := h.1 hc_5
        exact zm_sub [1, 2, 4] rfl (vb_X10_bestPlace_174 C hr hL9 _ _ _ h)
      · have h := h.2 hc_5
        exact zm_sub [1, 2, 3, 4, 5, 0] rfl (vb_X10_bestPlace_152 C hr hL9 _ _ _ _ _ _ h)
def wb_X10_bestPlace_85 (L9 : Int32 → Int32 → Int32 → MU → Prop) (Q : Int32 → MU → Prop) (x1 : Int32) (x2 : Int32) (x3 : Int32) (x4 : Int32) (s0 : Int32) (u : MU) : Prop := ((¬ s0 = 0) → ((0 ≤ x2) → vp_in x2 24 ∧ (vp_in x2 24 ∧ (w_X10_behind x1 (u 129 (x2).toNatClampNeg) (u 130 (x2).toNatClampNeg) (fun r_5 => vp_in r_5 1296 ∧ (wb_X10_bestPlace_124 L9  Q x1 x2 x3 x4 (u 127 (r_5).toNatClampNeg) u))))) ∧ ((¬ 0 ≤ x2) → wb_X10_bestPlace_124 L9  Q x1 x2 x3 x4 (-1 : Int32) u)) ∧ ((s0 = 0) → wb_X10_bestPlace_176 L9  Q x1 x2 x3 u)
set_option maxHeartbeats 4000000 in
set_option maxRecDepth 100000 in
theorem vb_X10_bestPlace_85 {p : Program} {l : Launch} {e : Env} {s : State} {m : MethodId} {args : Array Value} {below : List Frame} {meth : Method} {c : Code} {g : GE} {U : MU} {W : (Nat → Int64) × (Nat → UInt64)} {Q : Int32 → MU → Prop} (C : zCx p l s m args meth c g RX10 cX10_bestPlace 7) (hr : meth.sig.returnType = (Option.some Jvm.ClassFile.FieldType.int)) {L9 : Int32 → Int32 → Int32 → MU → Prop} (hL9 : ∀ (x1 : Int32) (x2 : Int32) (x3 : Int32) (u : MU), L9 x1 x2 x3 u → WM p l e rm_X10_bestPlace s m args below meth c g 7 0 0 (MQ below (zQi g (zPm U W Q)) args s 0 0 (zA g)) 9 [(0, .ref (g.2.2.1 117)), (1, .int x1), (2, .int x2), (3, .int x3)] [] (U, u, W)) (x1 : Int32) (x2 : Int32) (x3 : Int32) (x4 : Int32) (s0 : Int32) (u : MU) (h : wb_X10_bestPlace_85 L9  Q x1 x2 x3 x4 s0 u) : WM p l e rm_X10_bestPlace s m args below meth c g 7 0 0 (MQ below (zQi g (zPm U W Q)) args s 0 0 (zA g)) 85 [(0, .ref (g.2.2.1 117)), (1, .int x1), (2, .int x2), (3, .int x3), (4, .int x4)] [.int s0] (U, u, W) := by
  unfold wb_X10_bestPlace_85 at h
  refine zm_istore (lv' := [(5, .int s0), (0, .ref (g.2.2.1 117)), (1, .int x1), (2, .int x2), (3, .int x3), (4, .int x4)]) C dX10_bestPlace_85 (by decide) rfl ?_
  refine zm_iload C dX10_bestPlace_87 0 rfl ?_
  refine zm_if_ne (tgt := 95) C dX10_bestPlace_89 (by decide) (fun hc_1 => ?_) (fun hc_1 => ?_)
  · have h := h.1 hc_1
    refine zm_iload_n C dX10_bestPlace_95 rfl 3 rfl ?_
    refine zm_if_ge (tgt := 103) C dX10_bestPlace_96 (by decide) (fun hc_2 => ?_) (fun hc_2 => ?_)
    · have h := h.1 hc_2
      refine zm_aload_n C dX10_bestPlace_103 rfl 1 rfl ?_
      refine gf_RX10_42 (k1 := 127) C kd_117 rfl dX10_bestPlace_104 ?_
      refine zm_iload_n C dX10_bestPlace_107 rfl 2 rfl ?_
      refine zm_aload_n C dX10_bestPlace_108 rfl 1 rfl ?_
      refine gf_RX10_48 (k1 := 129) C kd_117 rfl dX10_bestPlace_109 ?_
      refine zm_iload_n C dX10_bestPlace_112 rfl 3 rfl ?_
      obtain ⟨hg_3, h⟩ := h
      refine zq_ld_m C kd_129 ln_129 hg_3 dX10_bestPlace_113 ?_
      refine zm_aload_n C dX10_bestPlace_114 rfl 1 rfl ?_
      refine gf_RX10_51 (k1 := 130) C kd_117 rfl dX10_bestPlace_115 ?_
      refine zm_iload_n C dX10_bestPlace_118 rfl 3 rfl ?_
      obtain ⟨hg_4, h⟩ := h
      refine zq_ld_m C kd_130 ln_130 hg_4 dX10_bestPlace_119 ?_
      refine zm_ci (zr_S (As := [.int x1, .int (u 129 (x2).toNatClampNeg), .int (u 130 (x2).toNatClampNeg)]) (rest := [.ref (g.2.2.1 127)]) C (c_X10_behind l g (U, u, W) x1 (u 129 (x2).toNatClampNeg) (u 130 (x2).toNatClampNeg) h) wd_1312 wd_1313 wd_11 wd_1314 hy_X10_behind rfl rfl ⟨by decide, by decide⟩ ⟨by decide, by decide⟩ rfl rfl (Nat.le_of_ble_eq_true rfl) dX10_bestPlace_120) (fun r_5 M1 hq => ?_)
      obtain ⟨rfl, h⟩ := hq
      obtain ⟨hg_7, h⟩ := h
      refine zq_ld_m C kd_127 ln_127 hg_7 dX10_bestPlace_123 ?_
      exact zm_sub [1, 2, 3, 4, 5] rfl (vb_X10_bestPlace_124 C hr hL9 _ _ _ _ _ _ h)
    · have h := h.2 hc_2
      refine zm_iconst (v := -1) C dX10_bestPlace_99 (by decide) ?_
      refine zm_goto (tgt := 124) C dX10_bestPlace_100 (by decide) ?_
      exact zm_sub [1, 2, 3, 4, 5] rfl (vb_X10_bestPlace_124 C hr hL9 _ _ _ _ _ _ h)
  · have h := h.2 hc_1
    refine zm_goto (tgt := 176) C dX10_bestPlace_92 (by decide) ?_
    exact zm_sub [1, 2, 3, 4] rfl (vb_X10_bestPlace_176 C hr hL9 _ _ _ _ h)
def wl_X10_bestPlace_9 (Q : Int32 → MU → Prop) : Nat → Int32 → Int32 → Int32 → MU → Prop
  | 0, _, _, _, _ => False
  | n + 1, x1, x2, x3, u => (((u 117 25) ≤ x3) → Q x2 u) ∧ ((¬ (u 117 25) ≤ x3) → vp_in x3 24 ∧ (vp_in x3 24 ∧ (w_X10_behind x1 (u 129 (x3).toNatClampNeg) (u 130 (x3).toNatClampNeg) (fun r_4 => vp_in x1 1296 ∧ (((¬ (u 126 (x1).toNatClampNeg) = 0) → vp_in r_4 1296 ∧ (vp_in x1 1296 ∧ (((¬ (u 126 (r_4).toNatClampNeg) = ((3 : Int32) - (u 126 (x1).toNatClampNeg))) → wb_X10_bestPlace_85 (fun x1' x2' x3' u' => wl_X10_bestPlace_9  Q n x1' x2' x3' u')  Q x1 x2 x3 r_4 (0 : Int32) u) ∧ (((u 126 (r_4).toNatClampNeg) = ((3 : Int32) - (u 126 (x1).toNatClampNeg))) → wb_X10_bestPlace_85 (fun x1' x2' x3' u' => wl_X10_bestPlace_9  Q n x1' x2' x3' u')  Q x1 x2 x3 r_4 (1 : Int32) u)))) ∧ (((u 126 (x1).toNatClampNeg) = 0) → vp_in r_4 1296 ∧ (((¬ (u 126 (r_4).toNatClampNeg) = 0) → wb_X10_bestPlace_85 (fun x1' x2' x3' u' => wl_X10_bestPlace_9  Q n x1' x2' x3' u')  Q x1 x2 x3 r_4 (0 : Int32) u) ∧ (((u 126 (r_4).toNatClampNeg) = 0) → wb_X10_bestPlace_85 (fun x1' x2' x3' u' => wl_X10_bestPlace_9  Q n x1' x2' x3' u')  Q x1 x2 x3 r_4 (1 : Int32) u))))))))
set_option maxHeartbeats 4000000 in
set_option maxRecDepth 100000 in
theorem vl_X10_bestPlace_9 {p : Program} {l : Launch} {e : Env} {s : State} {m : MethodId} {args : Array Value} {below : List Frame} {meth : Method} {c : Code} {g : GE} {U : MU} {W : (Nat → Int64) × (Nat → UInt64)} {Q : Int32 → MU → Prop} (C : zCx p l s m args meth c g RX10 cX10_bestPlace 7) (hr : meth.sig.returnType = (Option.some Jvm.ClassFile.FieldType.int)) : ∀ (n : Nat) (x1 : Int32) (x2 : Int32) (x3 : Int32) (u : MU) , wl_X10_bestPlace_9   Q n x1 x2 x3 u → WM p l e rm_X10_bestPlace s m args below meth c g 7 0 0 (MQ below (zQi g (zPm U W Q)) args s 0 0 (zA g)) 9 [(0, .ref (g.2.2.1 117)), (1, .int x1), (2, .int x2), (3, .int x3)] [] (U, u, W) := by
  intro n
  induction n with
  | zero => intro _ _ _ _ h; exact h.elim
  | succ n ih =>
    intro x1 x2 x3 u h
    unfold wl_X10_bestPlace_9 at h
    refine zm_iload_n C dX10_bestPlace_9 rfl 3 rfl ?_
    refine zm_aload_n C dX10_bestPlace_10 rfl 0 rfl ?_
    refine gf_RX10_103 C kd_117 dX10_bestPlace_11 ?_
    refine zm_icmp_ge (tgt := 182) C dX10_bestPlace_14 (by decide) (fun hc_1 => ?_) (fun hc_1 => ?_)
    · have h := h.1 hc_1
      refine zm_iload_n C dX10_bestPlace_182 rfl 2 rfl ?_
      exact zm_iret C hr dX10_bestPlace_183 ⟨_, rfl, h⟩
    · have h := h.2 hc_1
      refine zm_iload_n C dX10_bestPlace_17 rfl 1 rfl ?_
      refine zm_aload_n C dX10_bestPlace_18 rfl 0 rfl ?_
      refine gf_RX10_48 (k1 := 129) C kd_117 rfl dX10_bestPlace_19 ?_
      refine zm_iload_n C dX10_bestPlace_22 rfl 3 rfl ?_
      obtain ⟨hg_2, h⟩ := h
      refine zq_ld_m C kd_129 ln_129 hg_2 dX10_bestPlace_23 ?_
      refine zm_aload_n C dX10_bestPlace_24 rfl 0 rfl ?_
      refine gf_RX10_51 (k1 := 130) C kd_117 rfl dX10_bestPlace_25 ?_
      refine zm_iload_n C dX10_bestPlace_28 rfl 3 rfl ?_
      obtain ⟨hg_3, h⟩ := h
      refine zq_ld_m C kd_130 ln_130 hg_3 dX10_bestPlace_29 ?_
      refine zm_ci (zr_S (As := [.int x1, .int (u 129 (x3).toNatClampNeg), .int (u 130 (x3).toNatClampNeg)]) (rest := []) C (c_X10_behind l g (U, u, W) x1 (u 129 (x3).toNatClampNeg) (u 130 (x3).toNatClampNeg) h) wd_1312 wd_1313 wd_11 wd_1314 hy_X10_behind rfl rfl ⟨by decide, by decide⟩ ⟨by decide, by decide⟩ rfl rfl (Nat.le_of_ble_eq_true rfl) dX10_bestPlace_30) (fun r_4 M1 hq => ?_)
      obtain ⟨rfl, h⟩ := hq
      refine zm_istore (lv' := [(4, .int r_4), (0, .ref (g.2.2.1 117)), (1, .int x1), (2, .int x2), (3, .int x3)]) C dX10_bestPlace_33 (by decide) rfl ?_
      refine zm_aload_n C dX10_bestPlace_35 rfl 1 rfl ?_
      refine gf_RX10_39 (k1 := 126) C kd_117 rfl dX10_bestPlace_36 ?_
      refine zm_iload_n C dX10_bestPlace_39 rfl 2 rfl ?_
      obtain ⟨hg_6, h⟩ := h
      refine zq_ld_m C kd_126 ln_126 hg_6 dX10_bestPlace_40 ?_
      refine zm_if_ne (tgt := 62) C dX10_bestPlace_41 (by decide) (fun hc_7 => ?_) (fun hc_7 => ?_)
      · have h := h.1 hc_7
        refine zm_aload_n C dX10_bestPlace_62 rfl 1 rfl ?_
        refine gf_RX10_39 (k1 := 126) C kd_117 rfl dX10_bestPlace_63 ?_
        refine zm_iload C dX10_bestPlace_66 0 rfl ?_
        obtain ⟨hg_8, h⟩ := h
        refine zq_ld_m C kd_126 ln_126 hg_8 dX10_bestPlace_68 ?_
        refine zm_iconst (v := 3) C dX10_bestPlace_69 (by decide) ?_
        refine zm_aload_n C dX10_bestPlace_70 rfl 1 rfl ?_
        refine gf_RX10_39 (k1 := 126) C kd_117 rfl dX10_bestPlace_71 ?_
        refine zm_iload_n C dX10_bestPlace_74 rfl 2 rfl ?_
        obtain ⟨hg_9, h⟩ := h
        refine zq_ld_m C kd_126 ln_126 hg_9 dX10_bestPlace_75 ?_
        refine zm_isub C dX10_bestPlace_76 ?_
        refine zm_icmp_ne (tgt := 84) C dX10_bestPlace_77 (by decide) (fun hc_10 => ?_) (fun hc_10 => ?_)
        · have h := h.1 hc_10
          refine zm_iconst (v := 0) C dX10_bestPlace_84 (by decide) ?_
          exact zm_sub [1, 2, 3, 4, 0] rfl (vb_X10_bestPlace_85 C hr ih _ _ _ _ _ _ h)
        · have h := h.2 hc_10
          refine zm_iconst (v := 1) C dX10_bestPlace_80 (by decide) ?_
          refine zm_goto (tgt := 85) C dX10_bestPlace_81 (by decide) ?_
          exact zm_sub [1, 2, 3, 4, 0] rfl (vb_X10_bestPlace_85 C hr ih _ _ _ _ _ _ h)
      · have h := h.2 hc_7
        refine zm_aload_n C dX10_bestPlace_44 rfl 1 rfl ?_
        refine gf_RX10_39 (k1 := 126) C kd_117 rfl dX10_bestPlace_45 ?_
        refine zm_iload C dX10_bestPlace_48 0 rfl ?_
        obtain ⟨hg_11, h⟩ := h
        refine zq_ld_m C kd_126 ln_126 hg_11 dX10_bestPlace_50 ?_
        refine zm_if_ne (tgt := 58) C dX10_bestPlace_51 (by decide) (fun hc_12 => ?_) (fun hc_12 => ?_)
        · have h := h.1 hc_12
          refine zm_iconst (v := 0) C dX10_bestPlace_58 (by decide) ?_
          refine zm_goto (tgt := 85) C dX10_bestPlace_59 (by decide) ?_
          exact zm_sub [1, 2, 3, 4, 0] rfl (vb_X10_bestPlace_85 C hr ih _ _ _ _ _ _ h)
        · have h := h.2 hc_12
          refine zm_iconst (v := 1) C dX10_bestPlace_54 (by decide) ?_
          refine zm_goto (tgt := 85) C dX10_bestPlace_55 (by decide) ?_
          exact zm_sub [1, 2, 3, 4, 0] rfl (vb_X10_bestPlace_85 C hr ih _ _ _ _ _ _ h)
def w_X10_bestPlace (x1 : Int32) (u : MU) (Q : Int32 → MU → Prop) : Prop := w_X10_finds x1 u (fun u_2 => ∃ nn, wl_X10_bestPlace_9   Q nn x1 (-1 : Int32) (0 : Int32) u_2)
set_option maxHeartbeats 4000000 in
set_option maxRecDepth 100000 in
theorem c_X10_bestPlace (l : Launch) (g : GE) (U : MU) (u : MU) (W : (Nat → Int64) × (Nat → UInt64)) (x1 : Int32) {Q : Int32 → MU → Prop} (h : w_X10_bestPlace x1 u Q) : Met l yX10_bestPlace (.code yX10_bestPlace cX10_bestPlace 7 (Option.some Jvm.ClassFile.FieldType.int) :: TB) rm_X10_bestPlace (zPc g (U, u, W) [.ref (g.2.2.1 117), .int x1]) (zQi g (zPm U W Q)) 0 0 (zA g) := by
  unfold w_X10_bestPlace at h
  refine zMet (own := RX10) [(0, .ref (g.2.2.1 117)), (1, .int x1)] (by decide +kernel) rfl (Nat.le_of_ble_eq_true rfl) rfl (fun p e s m args below meth c C hr => ?_)
  refine zm_aload_n C dX10_bestPlace_0 rfl 0 rfl ?_
  refine zm_iload_n C dX10_bestPlace_1 rfl 1 rfl ?_
  refine zm_cv (zr_V (As := [.int x1]) (rest := []) C (c_X10_finds l g U u W x1 h) wd_1289 wd_1291 wp_47 wd_11 wd_1292 hy_X10_finds rfl rfl ⟨by decide, by decide⟩ ⟨by decide, by decide⟩ (ci := 10) (by decide) (zCell_k kd_117) rfl rfl rfl rfl (Nat.le_of_ble_eq_true rfl) dX10_bestPlace_2) (fun M1 hq => ?_)
  obtain ⟨u_2, rfl, h⟩ := hq
  refine zm_iconst (v := -1) C dX10_bestPlace_5 (by decide) ?_
  refine zm_istore_n (lv' := [(2, .int (-1 : Int32)), (0, .ref (g.2.2.1 117)), (1, .int x1)]) C dX10_bestPlace_6 rfl (by decide) rfl ?_
  refine zm_iconst (v := 0) C dX10_bestPlace_7 (by decide) ?_
  refine zm_istore_n (lv' := [(3, .int (0 : Int32)), (2, .int (-1 : Int32)), (0, .ref (g.2.2.1 117)), (1, .int x1)]) C dX10_bestPlace_8 rfl (by decide) rfl ?_
  obtain ⟨nn, h⟩ := h
  exact zm_sub [2, 3, 1, 0] rfl (vl_X10_bestPlace_9 C hr  nn _ _ _ _ h)
abbrev rm_X10_endsGame : Room := { frames := 0, cells := 0, slots := 0, locals := 0 }
def w_X10_endsGame (u : MU) (Q : MU → Prop) : Prop := vp_in (4 : Int32) 119 ∧ (∀ u_2, u_2 = u2 u 118 ((4 : Int32)).toNatClampNeg (0 : Int32) → vp_in (5 : Int32) 119 ∧ (∀ u_4, u_4 = u2 u_2 118 ((5 : Int32)).toNatClampNeg (0 : Int32) → Q u_4))
set_option maxHeartbeats 4000000 in
set_option maxRecDepth 100000 in
theorem c_X10_endsGame (l : Launch) (g : GE) (U : MU) (u : MU) (W : (Nat → Int64) × (Nat → UInt64)) {Q : MU → Prop} (h : w_X10_endsGame u Q) : Met l yX10_endsGame (.code yX10_endsGame cX10_endsGame 1 (Option.none : Option Jvm.ClassFile.FieldType) :: TB) rm_X10_endsGame (zPc g (U, u, W) [.ref (g.2.2.1 117)]) (zQv g (zPmv U W Q)) 0 0 (zA g) := by
  unfold w_X10_endsGame at h
  refine zMet (own := RX10) [(0, .ref (g.2.2.1 117))] (by decide +kernel) rfl (Nat.le_of_ble_eq_true rfl) rfl (fun p e s m args below meth c C hr => ?_)
  refine zm_aload_n C dX10_endsGame_0 rfl 0 rfl ?_
  refine gf_RX10_9 (k1 := 118) C kd_117 rfl dX10_endsGame_1 ?_
  refine zm_iconst (v := 4) C dX10_endsGame_4 (by decide) ?_
  refine zm_iconst (v := 0) C dX10_endsGame_5 (by decide) ?_
  obtain ⟨hg_1, h⟩ := h
  refine zq_st_m C kd_118 ln_118 hg_1 dX10_endsGame_6 (fun u_2 hu_2 => ?_)
  have h := h u_2 hu_2
  refine zm_aload_n C dX10_endsGame_7 rfl 0 rfl ?_
  refine gf_RX10_9 (k1 := 118) C kd_117 rfl dX10_endsGame_8 ?_
  refine zm_iconst (v := 5) C dX10_endsGame_11 (by decide) ?_
  refine zm_iconst (v := 0) C dX10_endsGame_12 (by decide) ?_
  obtain ⟨hg_3, h⟩ := h
  refine zq_st_m C kd_118 ln_118 hg_3 dX10_endsGame_13 (fun u_4 hu_4 => ?_)
  have h := h u_4 hu_4
  exact zm_vret C hr dX10_endsGame_14 ⟨_, rfl, h⟩
abbrev rm_X10_digs : Room := { frames := 1, cells := 0, slots := 0, locals := 22 }
def w_X10_digs (u : MU) (Q : Int32 → MU → Prop) : Prop := vp_in (0 : Int32) 119 ∧ (((¬ (u 118 ((0 : Int32)).toNatClampNeg) = (8 : Int32)) → w_X10_endsGame  u (fun u_4 => vp_in (0 : Int32) 119 ∧ (vp_in (0 : Int32) 119 ∧ (∀ u_7, u_7 = u2 u_4 118 ((0 : Int32)).toNatClampNeg ((u_4 118 ((0 : Int32)).toNatClampNeg) + (1 : Int32)) → Q (u_4 118 ((0 : Int32)).toNatClampNeg) u_7)))) ∧ (((u 118 ((0 : Int32)).toNatClampNeg) = (8 : Int32)) → w_X10_refuses (2 : Int32) (8 : Int32) u (fun r_8 u_9 => Q r_8 u_9)))
set_option maxHeartbeats 4000000 in
set_option maxRecDepth 100000 in
theorem c_X10_digs (l : Launch) (g : GE) (U : MU) (u : MU) (W : (Nat → Int64) × (Nat → UInt64)) {Q : Int32 → MU → Prop} (h : w_X10_digs u Q) : Met l yX10_digs (.code yX10_digs cX10_digs 1 (Option.some Jvm.ClassFile.FieldType.int) :: TB) rm_X10_digs (zPc g (U, u, W) [.ref (g.2.2.1 117)]) (zQi g (zPm U W Q)) 0 0 (zA g) := by
  unfold w_X10_digs at h
  refine zMet (own := RX10) [(0, .ref (g.2.2.1 117))] (by decide +kernel) rfl (Nat.le_of_ble_eq_true rfl) rfl (fun p e s m args below meth c C hr => ?_)
  refine zm_aload_n C dX10_digs_0 rfl 0 rfl ?_
  refine gf_RX10_9 (k1 := 118) C kd_117 rfl dX10_digs_1 ?_
  refine zm_iconst (v := 0) C dX10_digs_4 (by decide) ?_
  obtain ⟨hg_1, h⟩ := h
  refine zq_ld_m C kd_118 ln_118 hg_1 dX10_digs_5 ?_
  refine zm_bipush (v := 8) C dX10_digs_6 (by decide) ?_
  refine zm_icmp_ne (tgt := 19) C dX10_digs_8 (by decide) (fun hc_2 => ?_) (fun hc_2 => ?_)
  · have h := h.1 hc_2
    refine zm_aload_n C dX10_digs_19 rfl 0 rfl ?_
    refine zm_cv (zr_V (As := []) (rest := []) C (c_X10_endsGame l g U u W  h) wd_1196 wd_1198 wp_32 wd_11 wd_1199 hy_X10_endsGame rfl rfl ⟨by decide, by decide⟩ ⟨by decide, by decide⟩ (ci := 10) (by decide) (zCell_k kd_117) rfl rfl rfl rfl (Nat.le_of_ble_eq_true rfl) dX10_digs_20) (fun M1 hq => ?_)
    obtain ⟨u_4, rfl, h⟩ := hq
    refine zm_aload_n C dX10_digs_23 rfl 0 rfl ?_
    refine gf_RX10_9 (k1 := 118) C kd_117 rfl dX10_digs_24 ?_
    refine zm_iconst (v := 0) C dX10_digs_27 (by decide) ?_
    refine zm_dup2_11 C dX10_digs_28 rfl rfl ?_
    obtain ⟨hg_5, h⟩ := h
    refine zq_ld_m C kd_118 ln_118 hg_5 dX10_digs_29 ?_
    refine zm_dup_x2 C dX10_digs_30 rfl rfl rfl ?_
    refine zm_iconst (v := 1) C dX10_digs_31 (by decide) ?_
    refine zm_iadd C dX10_digs_32 ?_
    obtain ⟨hg_6, h⟩ := h
    refine zq_st_m C kd_118 ln_118 hg_6 dX10_digs_33 (fun u_7 hu_7 => ?_)
    have h := h u_7 hu_7
    exact zm_iret C hr dX10_digs_34 ⟨_, rfl, h⟩
  · have h := h.2 hc_2
    refine zm_aload_n C dX10_digs_11 rfl 0 rfl ?_
    refine zm_iconst (v := 2) C dX10_digs_12 (by decide) ?_
    refine zm_bipush (v := 8) C dX10_digs_13 (by decide) ?_
    refine zm_ci (zr_V (As := [.int (2 : Int32), .int (8 : Int32)]) (rest := []) C (c_X10_refuses l g U u W (2 : Int32) (8 : Int32) h) wd_1192 wd_1194 wp_31 wd_11 wd_1195 hy_X10_refuses rfl rfl ⟨by decide, by decide⟩ ⟨by decide, by decide⟩ (ci := 10) (by decide) (zCell_k kd_117) rfl rfl rfl rfl (Nat.le_of_ble_eq_true rfl) dX10_digs_15) (fun r_8 M1 hq => ?_)
    obtain ⟨u_9, rfl, h⟩ := hq
    exact zm_iret C hr dX10_digs_18 ⟨_, rfl, h⟩
abbrev rm_X10_dig : Room := { frames := 2, cells := 0, slots := 0, locals := 43 }
def w_X10_dig (u : MU) (Q : Int32 → MU → Prop) : Prop := w_X10_tries  u (fun u_2 => w_X10_digs  u_2 (fun r_3 u_4 => w_X10_keeps r_3 u_4 (fun r_5 u_6 => Q r_5 u_6)))
set_option maxHeartbeats 4000000 in
set_option maxRecDepth 100000 in
theorem c_X10_dig (l : Launch) (g : GE) (U : MU) (u : MU) (W : (Nat → Int64) × (Nat → UInt64)) {Q : Int32 → MU → Prop} (h : w_X10_dig u Q) : Met l yX10_dig (.code yX10_dig cX10_dig 1 (Option.some Jvm.ClassFile.FieldType.int) :: TB) rm_X10_dig (zPc g (U, u, W) [.ref (g.2.2.1 117)]) (zQi g (zPm U W Q)) 0 0 (zA g) := by
  unfold w_X10_dig at h
  refine zMet (own := RX10) [(0, .ref (g.2.2.1 117))] (by decide +kernel) rfl (Nat.le_of_ble_eq_true rfl) rfl (fun p e s m args below meth c C hr => ?_)
  refine zm_aload_n C dX10_dig_0 rfl 0 rfl ?_
  refine zm_cv (zr_V (As := []) (rest := []) C (c_X10_tries l g U u W  h) wd_1184 wd_1186 wp_29 wd_11 wd_1187 hy_X10_tries rfl rfl ⟨by decide, by decide⟩ ⟨by decide, by decide⟩ (ci := 10) (by decide) (zCell_k kd_117) rfl rfl rfl rfl (Nat.le_of_ble_eq_true rfl) dX10_dig_1) (fun M1 hq => ?_)
  obtain ⟨u_2, rfl, h⟩ := hq
  refine zm_aload_n C dX10_dig_4 rfl 0 rfl ?_
  refine zm_aload_n C dX10_dig_5 rfl 0 rfl ?_
  refine zm_ci (zr_V (As := []) (rest := [.ref (g.2.2.1 117)]) C (c_X10_digs l g U u_2 W  h) wd_1188 wd_1190 wp_30 wd_11 wd_1191 hy_X10_digs rfl rfl ⟨by decide, by decide⟩ ⟨by decide, by decide⟩ (ci := 10) (by decide) (zCell_k kd_117) rfl rfl rfl rfl (Nat.le_of_ble_eq_true rfl) dX10_dig_6) (fun r_3 M1 hq => ?_)
  obtain ⟨u_4, rfl, h⟩ := hq
  refine zm_ci (zr_V (As := [.int r_3]) (rest := []) C (c_X10_keeps l g U u_4 W r_3 h) wd_1200 wd_1202 wp_33 wd_11 wd_1203 hy_X10_keeps rfl rfl ⟨by decide, by decide⟩ ⟨by decide, by decide⟩ (ci := 10) (by decide) (zCell_k kd_117) rfl rfl rfl rfl (Nat.le_of_ble_eq_true rfl) dX10_dig_9) (fun r_5 M1 hq => ?_)
  obtain ⟨u_6, rfl, h⟩ := hq
  exact zm_iret C hr dX10_dig_12 ⟨_, rfl, h⟩
abbrev rm_X10_lacks : Room := { frames := 2, cells := 0, slots := 0, locals := 43 }
def w_X10_lacks (x1 : Int32) (x2 : Int32) (u : MU) (Q : Int32 → MU → Prop) : Prop := w_X10_isBurrow u x1 (fun r_1 => ((¬ r_1 = 0) → w_X10_isBurrow u x2 (fun r_4 => ((r_4 = 0) → w_X10_refuses (3 : Int32) x2 u (fun r_7 u_8 => Q r_7 u_8)) ∧ ((¬ r_4 = 0) → Q (0 : Int32) u))) ∧ ((r_1 = 0) → w_X10_refuses (3 : Int32) x1 u (fun r_9 u_10 => Q r_9 u_10)))
set_option maxHeartbeats 4000000 in
set_option maxRecDepth 100000 in
theorem c_X10_lacks (l : Launch) (g : GE) (U : MU) (u : MU) (W : (Nat → Int64) × (Nat → UInt64)) (x1 : Int32) (x2 : Int32) {Q : Int32 → MU → Prop} (h : w_X10_lacks x1 x2 u Q) : Met l yX10_lacks (.code yX10_lacks cX10_lacks 3 (Option.some Jvm.ClassFile.FieldType.int) :: TB) rm_X10_lacks (zPc g (U, u, W) [.ref (g.2.2.1 117), .int x1, .int x2]) (zQi g (zPm U W Q)) 0 0 (zA g) := by
  unfold w_X10_lacks at h
  refine zMet (own := RX10) [(0, .ref (g.2.2.1 117)), (1, .int x1), (2, .int x2)] (by decide +kernel) rfl (Nat.le_of_ble_eq_true rfl) rfl (fun p e s m args below meth c C hr => ?_)
  refine zm_aload_n C dX10_lacks_0 rfl 0 rfl ?_
  refine zm_iload_n C dX10_lacks_1 rfl 1 rfl ?_
  refine zm_ci (zr_V (As := [.int x1]) (rest := []) C (c_X10_isBurrow l g U u W x1 h) wd_1220 wd_1222 wp_37 wd_11 wd_1223 hy_X10_isBurrow rfl rfl ⟨by decide, by decide⟩ ⟨by decide, by decide⟩ (ci := 10) (by decide) (zCell_k kd_117) rfl rfl rfl rfl (Nat.le_of_ble_eq_true rfl) dX10_lacks_2) (fun r_1 M1 hq => ?_)
  obtain ⟨rfl, h⟩ := hq
  refine zm_if_ne (tgt := 15) C dX10_lacks_5 (by decide) (fun hc_3 => ?_) (fun hc_3 => ?_)
  · have h := h.1 hc_3
    refine zm_aload_n C dX10_lacks_15 rfl 0 rfl ?_
    refine zm_iload_n C dX10_lacks_16 rfl 2 rfl ?_
    refine zm_ci (zr_V (As := [.int x2]) (rest := []) C (c_X10_isBurrow l g U u W x2 h) wd_1220 wd_1222 wp_37 wd_11 wd_1223 hy_X10_isBurrow rfl rfl ⟨by decide, by decide⟩ ⟨by decide, by decide⟩ (ci := 10) (by decide) (zCell_k kd_117) rfl rfl rfl rfl (Nat.le_of_ble_eq_true rfl) dX10_lacks_17) (fun r_4 M1 hq => ?_)
    obtain ⟨rfl, h⟩ := hq
    refine zm_if_eq (tgt := 27) C dX10_lacks_20 (by decide) (fun hc_6 => ?_) (fun hc_6 => ?_)
    · have h := h.1 hc_6
      refine zm_aload_n C dX10_lacks_27 rfl 0 rfl ?_
      refine zm_iconst (v := 3) C dX10_lacks_28 (by decide) ?_
      refine zm_iload_n C dX10_lacks_29 rfl 2 rfl ?_
      refine zm_ci (zr_V (As := [.int (3 : Int32), .int x2]) (rest := []) C (c_X10_refuses l g U u W (3 : Int32) x2 h) wd_1192 wd_1194 wp_31 wd_11 wd_1195 hy_X10_refuses rfl rfl ⟨by decide, by decide⟩ ⟨by decide, by decide⟩ (ci := 10) (by decide) (zCell_k kd_117) rfl rfl rfl rfl (Nat.le_of_ble_eq_true rfl) dX10_lacks_30) (fun r_7 M1 hq => ?_)
      obtain ⟨u_8, rfl, h⟩ := hq
      exact zm_iret C hr dX10_lacks_33 ⟨_, rfl, h⟩
    · have h := h.2 hc_6
      refine zm_iconst (v := 0) C dX10_lacks_23 (by decide) ?_
      refine zm_goto (tgt := 33) C dX10_lacks_24 (by decide) ?_
      exact zm_iret C hr dX10_lacks_33 ⟨_, rfl, h⟩
  · have h := h.2 hc_3
    refine zm_aload_n C dX10_lacks_8 rfl 0 rfl ?_
    refine zm_iconst (v := 3) C dX10_lacks_9 (by decide) ?_
    refine zm_iload_n C dX10_lacks_10 rfl 1 rfl ?_
    refine zm_ci (zr_V (As := [.int (3 : Int32), .int x1]) (rest := []) C (c_X10_refuses l g U u W (3 : Int32) x1 h) wd_1192 wd_1194 wp_31 wd_11 wd_1195 hy_X10_refuses rfl rfl ⟨by decide, by decide⟩ ⟨by decide, by decide⟩ (ci := 10) (by decide) (zCell_k kd_117) rfl rfl rfl rfl (Nat.le_of_ble_eq_true rfl) dX10_lacks_11) (fun r_9 M1 hq => ?_)
    obtain ⟨u_10, rfl, h⟩ := hq
    exact zm_iret C hr dX10_lacks_14 ⟨_, rfl, h⟩
abbrev rm_X10_treads : Room := { frames := 3, cells := 0, slots := 0, locals := 65 }
def w_X10_treads (x1 : Int32) (x2 : Int32) (u : MU) (Q : Int32 → MU → Prop) : Prop := w_X10_lacks x1 x2 u (fun r_1 u_2 => ((0 ≤ r_1) → ((¬ x1 = x2) → w_X10_path u_2 x1 x2 (fun r_5 => ((r_5 < 0) → vp_in (3 : Int32) 119 ∧ (((¬ (u_2 118 ((3 : Int32)).toNatClampNeg) = (16 : Int32)) → w_X10_endsGame  u_2 (fun u_11 => vp_in (3 : Int32) 119 ∧ (vp_in ((7 : Int32) + ((2 : Int32) * (u_11 118 ((3 : Int32)).toNatClampNeg))) 119 ∧ (∀ u_14, u_14 = u2 u_11 118 (((7 : Int32) + ((2 : Int32) * (u_11 118 ((3 : Int32)).toNatClampNeg)))).toNatClampNeg x1 → vp_in (3 : Int32) 119 ∧ (vp_in (((7 : Int32) + ((2 : Int32) * (u_14 118 ((3 : Int32)).toNatClampNeg))) + (1 : Int32)) 119 ∧ (∀ u_17, u_17 = u2 u_14 118 ((((7 : Int32) + ((2 : Int32) * (u_14 118 ((3 : Int32)).toNatClampNeg))) + (1 : Int32))).toNatClampNeg x2 → vp_in (3 : Int32) 119 ∧ (vp_in (3 : Int32) 119 ∧ (∀ u_20, u_20 = u2 u_17 118 ((3 : Int32)).toNatClampNeg ((u_17 118 ((3 : Int32)).toNatClampNeg) + (1 : Int32)) → Q (u_17 118 ((3 : Int32)).toNatClampNeg) u_20)))))))) ∧ (((u_2 118 ((3 : Int32)).toNatClampNeg) = (16 : Int32)) → w_X10_refuses (2 : Int32) (16 : Int32) u_2 (fun r_21 u_22 => Q r_21 u_22)))) ∧ ((¬ r_5 < 0) → w_X10_refuses (5 : Int32) (0 : Int32) u_2 (fun r_23 u_24 => Q r_23 u_24)))) ∧ ((x1 = x2) → w_X10_refuses (4 : Int32) x1 u_2 (fun r_25 u_26 => Q r_25 u_26))) ∧ ((¬ 0 ≤ r_1) → Q (-1 : Int32) u_2))
set_option maxHeartbeats 4000000 in
set_option maxRecDepth 100000 in
theorem c_X10_treads (l : Launch) (g : GE) (U : MU) (u : MU) (W : (Nat → Int64) × (Nat → UInt64)) (x1 : Int32) (x2 : Int32) {Q : Int32 → MU → Prop} (h : w_X10_treads x1 x2 u Q) : Met l yX10_treads (.code yX10_treads cX10_treads 3 (Option.some Jvm.ClassFile.FieldType.int) :: TB) rm_X10_treads (zPc g (U, u, W) [.ref (g.2.2.1 117), .int x1, .int x2]) (zQi g (zPm U W Q)) 0 0 (zA g) := by
  unfold w_X10_treads at h
  refine zMet (own := RX10) [(0, .ref (g.2.2.1 117)), (1, .int x1), (2, .int x2)] (by decide +kernel) rfl (Nat.le_of_ble_eq_true rfl) rfl (fun p e s m args below meth c C hr => ?_)
  refine zm_aload_n C dX10_treads_0 rfl 0 rfl ?_
  refine zm_iload_n C dX10_treads_1 rfl 1 rfl ?_
  refine zm_iload_n C dX10_treads_2 rfl 2 rfl ?_
  refine zm_ci (zr_V (As := [.int x1, .int x2]) (rest := []) C (c_X10_lacks l g U u W x1 x2 h) wd_1216 wd_1218 wp_36 wd_11 wd_1219 hy_X10_lacks rfl rfl ⟨by decide, by decide⟩ ⟨by decide, by decide⟩ (ci := 10) (by decide) (zCell_k kd_117) rfl rfl rfl rfl (Nat.le_of_ble_eq_true rfl) dX10_treads_3) (fun r_1 M1 hq => ?_)
  obtain ⟨u_2, rfl, h⟩ := hq
  refine zm_if_ge (tgt := 11) C dX10_treads_6 (by decide) (fun hc_3 => ?_) (fun hc_3 => ?_)
  · have h := h.1 hc_3
    refine zm_iload_n C dX10_treads_11 rfl 1 rfl ?_
    refine zm_iload_n C dX10_treads_12 rfl 2 rfl ?_
    refine zm_icmp_ne (tgt := 23) C dX10_treads_13 (by decide) (fun hc_4 => ?_) (fun hc_4 => ?_)
    · have h := h.1 hc_4
      refine zm_aload_n C dX10_treads_23 rfl 0 rfl ?_
      refine zm_iload_n C dX10_treads_24 rfl 1 rfl ?_
      refine zm_iload_n C dX10_treads_25 rfl 2 rfl ?_
      refine zm_ci (zr_V (As := [.int x1, .int x2]) (rest := []) C (c_X10_path l g U u_2 W x1 x2 h) wd_1227 wd_1229 wp_38 wd_11 wd_1230 hy_X10_path rfl rfl ⟨by decide, by decide⟩ ⟨by decide, by decide⟩ (ci := 10) (by decide) (zCell_k kd_117) rfl rfl rfl rfl (Nat.le_of_ble_eq_true rfl) dX10_treads_26) (fun r_5 M1 hq => ?_)
      obtain ⟨rfl, h⟩ := hq
      refine zm_if_lt (tgt := 39) C dX10_treads_29 (by decide) (fun hc_7 => ?_) (fun hc_7 => ?_)
      · have h := h.1 hc_7
        refine zm_aload_n C dX10_treads_39 rfl 0 rfl ?_
        refine gf_RX10_9 (k1 := 118) C kd_117 rfl dX10_treads_40 ?_
        refine zm_iconst (v := 3) C dX10_treads_43 (by decide) ?_
        obtain ⟨hg_8, h⟩ := h
        refine zq_ld_m C kd_118 ln_118 hg_8 dX10_treads_44 ?_
        refine zm_bipush (v := 16) C dX10_treads_45 (by decide) ?_
        refine zm_icmp_ne (tgt := 58) C dX10_treads_47 (by decide) (fun hc_9 => ?_) (fun hc_9 => ?_)
        · have h := h.1 hc_9
          refine zm_aload_n C dX10_treads_58 rfl 0 rfl ?_
          refine zm_cv (zr_V (As := []) (rest := []) C (c_X10_endsGame l g U u_2 W  h) wd_1196 wd_1198 wp_32 wd_11 wd_1199 hy_X10_endsGame rfl rfl ⟨by decide, by decide⟩ ⟨by decide, by decide⟩ (ci := 10) (by decide) (zCell_k kd_117) rfl rfl rfl rfl (Nat.le_of_ble_eq_true rfl) dX10_treads_59) (fun M1 hq => ?_)
          obtain ⟨u_11, rfl, h⟩ := hq
          refine zm_aload_n C dX10_treads_62 rfl 0 rfl ?_
          refine gf_RX10_9 (k1 := 118) C kd_117 rfl dX10_treads_63 ?_
          refine zm_bipush (v := 7) C dX10_treads_66 (by decide) ?_
          refine zm_iconst (v := 2) C dX10_treads_68 (by decide) ?_
          refine zm_aload_n C dX10_treads_69 rfl 0 rfl ?_
          refine gf_RX10_9 (k1 := 118) C kd_117 rfl dX10_treads_70 ?_
          refine zm_iconst (v := 3) C dX10_treads_73 (by decide) ?_
          obtain ⟨hg_12, h⟩ := h
          refine zq_ld_m C kd_118 ln_118 hg_12 dX10_treads_74 ?_
          refine zm_imul C dX10_treads_75 ?_
          refine zm_iadd C dX10_treads_76 ?_
          refine zm_iload_n C dX10_treads_77 rfl 1 rfl ?_
          obtain ⟨hg_13, h⟩ := h
          refine zq_st_m C kd_118 ln_118 hg_13 dX10_treads_78 (fun u_14 hu_14 => ?_)
          have h := h u_14 hu_14
          refine zm_aload_n C dX10_treads_79 rfl 0 rfl ?_
          refine gf_RX10_9 (k1 := 118) C kd_117 rfl dX10_treads_80 ?_
          refine zm_bipush (v := 7) C dX10_treads_83 (by decide) ?_
          refine zm_iconst (v := 2) C dX10_treads_85 (by decide) ?_
          refine zm_aload_n C dX10_treads_86 rfl 0 rfl ?_
          refine gf_RX10_9 (k1 := 118) C kd_117 rfl dX10_treads_87 ?_
          refine zm_iconst (v := 3) C dX10_treads_90 (by decide) ?_
          obtain ⟨hg_15, h⟩ := h
          refine zq_ld_m C kd_118 ln_118 hg_15 dX10_treads_91 ?_
          refine zm_imul C dX10_treads_92 ?_
          refine zm_iadd C dX10_treads_93 ?_
          refine zm_iconst (v := 1) C dX10_treads_94 (by decide) ?_
          refine zm_iadd C dX10_treads_95 ?_
          refine zm_iload_n C dX10_treads_96 rfl 2 rfl ?_
          obtain ⟨hg_16, h⟩ := h
          refine zq_st_m C kd_118 ln_118 hg_16 dX10_treads_97 (fun u_17 hu_17 => ?_)
          have h := h u_17 hu_17
          refine zm_aload_n C dX10_treads_98 rfl 0 rfl ?_
          refine gf_RX10_9 (k1 := 118) C kd_117 rfl dX10_treads_99 ?_
          refine zm_iconst (v := 3) C dX10_treads_102 (by decide) ?_
          refine zm_dup2_11 C dX10_treads_103 rfl rfl ?_
          obtain ⟨hg_18, h⟩ := h
          refine zq_ld_m C kd_118 ln_118 hg_18 dX10_treads_104 ?_
          refine zm_dup_x2 C dX10_treads_105 rfl rfl rfl ?_
          refine zm_iconst (v := 1) C dX10_treads_106 (by decide) ?_
          refine zm_iadd C dX10_treads_107 ?_
          obtain ⟨hg_19, h⟩ := h
          refine zq_st_m C kd_118 ln_118 hg_19 dX10_treads_108 (fun u_20 hu_20 => ?_)
          have h := h u_20 hu_20
          exact zm_iret C hr dX10_treads_109 ⟨_, rfl, h⟩
        · have h := h.2 hc_9
          refine zm_aload_n C dX10_treads_50 rfl 0 rfl ?_
          refine zm_iconst (v := 2) C dX10_treads_51 (by decide) ?_
          refine zm_bipush (v := 16) C dX10_treads_52 (by decide) ?_
          refine zm_ci (zr_V (As := [.int (2 : Int32), .int (16 : Int32)]) (rest := []) C (c_X10_refuses l g U u_2 W (2 : Int32) (16 : Int32) h) wd_1192 wd_1194 wp_31 wd_11 wd_1195 hy_X10_refuses rfl rfl ⟨by decide, by decide⟩ ⟨by decide, by decide⟩ (ci := 10) (by decide) (zCell_k kd_117) rfl rfl rfl rfl (Nat.le_of_ble_eq_true rfl) dX10_treads_54) (fun r_21 M1 hq => ?_)
          obtain ⟨u_22, rfl, h⟩ := hq
          exact zm_iret C hr dX10_treads_57 ⟨_, rfl, h⟩
      · have h := h.2 hc_7
        refine zm_aload_n C dX10_treads_32 rfl 0 rfl ?_
        refine zm_iconst (v := 5) C dX10_treads_33 (by decide) ?_
        refine zm_iconst (v := 0) C dX10_treads_34 (by decide) ?_
        refine zm_ci (zr_V (As := [.int (5 : Int32), .int (0 : Int32)]) (rest := []) C (c_X10_refuses l g U u_2 W (5 : Int32) (0 : Int32) h) wd_1192 wd_1194 wp_31 wd_11 wd_1195 hy_X10_refuses rfl rfl ⟨by decide, by decide⟩ ⟨by decide, by decide⟩ (ci := 10) (by decide) (zCell_k kd_117) rfl rfl rfl rfl (Nat.le_of_ble_eq_true rfl) dX10_treads_35) (fun r_23 M1 hq => ?_)
        obtain ⟨u_24, rfl, h⟩ := hq
        exact zm_iret C hr dX10_treads_38 ⟨_, rfl, h⟩
    · have h := h.2 hc_4
      refine zm_aload_n C dX10_treads_16 rfl 0 rfl ?_
      refine zm_iconst (v := 4) C dX10_treads_17 (by decide) ?_
      refine zm_iload_n C dX10_treads_18 rfl 1 rfl ?_
      refine zm_ci (zr_V (As := [.int (4 : Int32), .int x1]) (rest := []) C (c_X10_refuses l g U u_2 W (4 : Int32) x1 h) wd_1192 wd_1194 wp_31 wd_11 wd_1195 hy_X10_refuses rfl rfl ⟨by decide, by decide⟩ ⟨by decide, by decide⟩ (ci := 10) (by decide) (zCell_k kd_117) rfl rfl rfl rfl (Nat.le_of_ble_eq_true rfl) dX10_treads_19) (fun r_25 M1 hq => ?_)
      obtain ⟨u_26, rfl, h⟩ := hq
      exact zm_iret C hr dX10_treads_22 ⟨_, rfl, h⟩
  · have h := h.2 hc_3
    refine zm_iconst (v := -1) C dX10_treads_9 (by decide) ?_
    exact zm_iret C hr dX10_treads_10 ⟨_, rfl, h⟩
abbrev rm_X10_tread : Room := { frames := 4, cells := 0, slots := 0, locals := 87 }
def w_X10_tread (x1 : Int32) (x2 : Int32) (u : MU) (Q : Int32 → MU → Prop) : Prop := w_X10_tries  u (fun u_2 => w_X10_treads x1 x2 u_2 (fun r_3 u_4 => w_X10_keeps r_3 u_4 (fun r_5 u_6 => Q r_5 u_6)))
set_option maxHeartbeats 4000000 in
set_option maxRecDepth 100000 in
theorem c_X10_tread (l : Launch) (g : GE) (U : MU) (u : MU) (W : (Nat → Int64) × (Nat → UInt64)) (x1 : Int32) (x2 : Int32) {Q : Int32 → MU → Prop} (h : w_X10_tread x1 x2 u Q) : Met l yX10_tread (.code yX10_tread cX10_tread 3 (Option.some Jvm.ClassFile.FieldType.int) :: TB) rm_X10_tread (zPc g (U, u, W) [.ref (g.2.2.1 117), .int x1, .int x2]) (zQi g (zPm U W Q)) 0 0 (zA g) := by
  unfold w_X10_tread at h
  refine zMet (own := RX10) [(0, .ref (g.2.2.1 117)), (1, .int x1), (2, .int x2)] (by decide +kernel) rfl (Nat.le_of_ble_eq_true rfl) rfl (fun p e s m args below meth c C hr => ?_)
  refine zm_aload_n C dX10_tread_0 rfl 0 rfl ?_
  refine zm_cv (zr_V (As := []) (rest := []) C (c_X10_tries l g U u W  h) wd_1184 wd_1186 wp_29 wd_11 wd_1187 hy_X10_tries rfl rfl ⟨by decide, by decide⟩ ⟨by decide, by decide⟩ (ci := 10) (by decide) (zCell_k kd_117) rfl rfl rfl rfl (Nat.le_of_ble_eq_true rfl) dX10_tread_1) (fun M1 hq => ?_)
  obtain ⟨u_2, rfl, h⟩ := hq
  refine zm_aload_n C dX10_tread_4 rfl 0 rfl ?_
  refine zm_aload_n C dX10_tread_5 rfl 0 rfl ?_
  refine zm_iload_n C dX10_tread_6 rfl 1 rfl ?_
  refine zm_iload_n C dX10_tread_7 rfl 2 rfl ?_
  refine zm_ci (zr_V (As := [.int x1, .int x2]) (rest := [.ref (g.2.2.1 117)]) C (c_X10_treads l g U u_2 W x1 x2 h) wd_1212 wd_1214 wp_35 wd_11 wd_1215 hy_X10_treads rfl rfl ⟨by decide, by decide⟩ ⟨by decide, by decide⟩ (ci := 10) (by decide) (zCell_k kd_117) rfl rfl rfl rfl (Nat.le_of_ble_eq_true rfl) dX10_tread_8) (fun r_3 M1 hq => ?_)
  obtain ⟨u_4, rfl, h⟩ := hq
  refine zm_ci (zr_V (As := [.int r_3]) (rest := []) C (c_X10_keeps l g U u_4 W r_3 h) wd_1200 wd_1202 wp_33 wd_11 wd_1203 hy_X10_keeps rfl rfl ⟨by decide, by decide⟩ ⟨by decide, by decide⟩ (ci := 10) (by decide) (zCell_k kd_117) rfl rfl rfl rfl (Nat.le_of_ble_eq_true rfl) dX10_tread_11) (fun r_5 M1 hq => ?_)
  obtain ⟨u_6, rfl, h⟩ := hq
  exact zm_iret C hr dX10_tread_14 ⟨_, rfl, h⟩
abbrev rm_X10_grows : Room := { frames := 3, cells := 0, slots := 0, locals := 65 }
def wl_X10_grows_52 (Q : Int32 → MU → Prop) : Nat → Int32 → MU → Prop
  | 0, _, _ => False
  | n + 1, x4, u => vp_in (3 : Int32) 119 ∧ (((((7 : Int32) + ((2 : Int32) * (u 118 ((3 : Int32)).toNatClampNeg))) ≤ x4) → vp_in (3 : Int32) 119 ∧ (Q (u 118 ((3 : Int32)).toNatClampNeg) u)) ∧ ((¬ ((7 : Int32) + ((2 : Int32) * (u 118 ((3 : Int32)).toNatClampNeg))) ≤ x4) → vp_in (x4 + (2 : Int32)) 119 ∧ (vp_in x4 119 ∧ (∀ u_6, u_6 = u2 u 118 (x4).toNatClampNeg (u 118 ((x4 + (2 : Int32))).toNatClampNeg) → ∀ x4_7, x4_7 = x4 + (1 : Int32) → wl_X10_grows_52   Q n x4_7 u_6))))
set_option maxHeartbeats 4000000 in
set_option maxRecDepth 100000 in
theorem vl_X10_grows_52 {p : Program} {l : Launch} {e : Env} {s : State} {m : MethodId} {args : Array Value} {below : List Frame} {meth : Method} {c : Code} {g : GE} {U : MU} {W : (Nat → Int64) × (Nat → UInt64)} {Q : Int32 → MU → Prop} (C : zCx p l s m args meth c g RX10 cX10_grows 5) (hr : meth.sig.returnType = (Option.some Jvm.ClassFile.FieldType.int)) : ∀ (n : Nat) (x4 : Int32) (u : MU) , wl_X10_grows_52   Q n x4 u → WM p l e rm_X10_grows s m args below meth c g 5 0 0 (MQ below (zQi g (zPm U W Q)) args s 0 0 (zA g)) 52 [(0, .ref (g.2.2.1 117)), (4, .int x4)] [] (U, u, W) := by
  intro n
  induction n with
  | zero => intro _ _ h; exact h.elim
  | succ n ih =>
    intro x4 u h
    unfold wl_X10_grows_52 at h
    refine zm_iload C dX10_grows_52 1 rfl ?_
    refine zm_bipush (v := 7) C dX10_grows_54 (by decide) ?_
    refine zm_iconst (v := 2) C dX10_grows_56 (by decide) ?_
    refine zm_aload_n C dX10_grows_57 rfl 0 rfl ?_
    refine gf_RX10_9 (k1 := 118) C kd_117 rfl dX10_grows_58 ?_
    refine zm_iconst (v := 3) C dX10_grows_61 (by decide) ?_
    obtain ⟨hg_1, h⟩ := h
    refine zq_ld_m C kd_118 ln_118 hg_1 dX10_grows_62 ?_
    refine zm_imul C dX10_grows_63 ?_
    refine zm_iadd C dX10_grows_64 ?_
    refine zm_icmp_ge (tgt := 90) C dX10_grows_65 (by decide) (fun hc_2 => ?_) (fun hc_2 => ?_)
    · have h := h.1 hc_2
      refine zm_aload_n C dX10_grows_90 rfl 0 rfl ?_
      refine gf_RX10_9 (k1 := 118) C kd_117 rfl dX10_grows_91 ?_
      refine zm_iconst (v := 3) C dX10_grows_94 (by decide) ?_
      obtain ⟨hg_3, h⟩ := h
      refine zq_ld_m C kd_118 ln_118 hg_3 dX10_grows_95 ?_
      exact zm_iret C hr dX10_grows_96 ⟨_, rfl, h⟩
    · have h := h.2 hc_2
      refine zm_aload_n C dX10_grows_68 rfl 0 rfl ?_
      refine gf_RX10_9 (k1 := 118) C kd_117 rfl dX10_grows_69 ?_
      refine zm_iload C dX10_grows_72 1 rfl ?_
      refine zm_aload_n C dX10_grows_74 rfl 0 rfl ?_
      refine gf_RX10_9 (k1 := 118) C kd_117 rfl dX10_grows_75 ?_
      refine zm_iload C dX10_grows_78 1 rfl ?_
      refine zm_iconst (v := 2) C dX10_grows_80 (by decide) ?_
      refine zm_iadd C dX10_grows_81 ?_
      obtain ⟨hg_4, h⟩ := h
      refine zq_ld_m C kd_118 ln_118 hg_4 dX10_grows_82 ?_
      obtain ⟨hg_5, h⟩ := h
      refine zq_st_m C kd_118 ln_118 hg_5 dX10_grows_83 (fun u_6 hu_6 => ?_)
      have h := h u_6 hu_6
      obtain ⟨x4_7, hx4_7⟩ : ∃ z, z = x4 + (1 : Int32) := ⟨_, rfl⟩
      have h := h x4_7 hx4_7
      refine zm_iinc (v := x4_7) (lv' := [(4, .int x4_7), (0, .ref (g.2.2.1 117))]) C dX10_grows_84 1 rfl (by rw [hx4_7]; rfl) (by decide) rfl ?_
      refine zm_goto (tgt := 52) C dX10_grows_87 (by decide) ?_
      exact zm_sub [1, 0] rfl (ih _ _ h)
def w_X10_grows (x1 : Int32) (x2 : Int32) (u : MU) (Q : Int32 → MU → Prop) : Prop := w_X10_lacks x1 x2 u (fun r_1 u_2 => ((0 ≤ r_1) → w_X10_path u_2 x1 x2 (fun r_4 => ((0 ≤ r_4) → w_X10_endsGame  u_2 (fun u_8 => vp_in (3 : Int32) 119 ∧ (vp_in (3 : Int32) 119 ∧ (∀ u_11, u_11 = u2 u_8 118 ((3 : Int32)).toNatClampNeg ((u_8 118 ((3 : Int32)).toNatClampNeg) - (1 : Int32)) → ∀ x4_12, x4_12 = ((7 : Int32) + ((2 : Int32) * r_4)) → ∃ nn, wl_X10_grows_52   Q nn x4_12 u_11)))) ∧ ((¬ 0 ≤ r_4) → w_X10_refuses (6 : Int32) x1 u_2 (fun r_13 u_14 => Q r_13 u_14)))) ∧ ((¬ 0 ≤ r_1) → Q (-1 : Int32) u_2))
set_option maxHeartbeats 4000000 in
set_option maxRecDepth 100000 in
theorem c_X10_grows (l : Launch) (g : GE) (U : MU) (u : MU) (W : (Nat → Int64) × (Nat → UInt64)) (x1 : Int32) (x2 : Int32) {Q : Int32 → MU → Prop} (h : w_X10_grows x1 x2 u Q) : Met l yX10_grows (.code yX10_grows cX10_grows 5 (Option.some Jvm.ClassFile.FieldType.int) :: TB) rm_X10_grows (zPc g (U, u, W) [.ref (g.2.2.1 117), .int x1, .int x2]) (zQi g (zPm U W Q)) 0 0 (zA g) := by
  unfold w_X10_grows at h
  refine zMet (own := RX10) [(0, .ref (g.2.2.1 117)), (1, .int x1), (2, .int x2)] (by decide +kernel) rfl (Nat.le_of_ble_eq_true rfl) rfl (fun p e s m args below meth c C hr => ?_)
  refine zm_aload_n C dX10_grows_0 rfl 0 rfl ?_
  refine zm_iload_n C dX10_grows_1 rfl 1 rfl ?_
  refine zm_iload_n C dX10_grows_2 rfl 2 rfl ?_
  refine zm_ci (zr_V (As := [.int x1, .int x2]) (rest := []) C (c_X10_lacks l g U u W x1 x2 h) wd_1216 wd_1218 wp_36 wd_11 wd_1219 hy_X10_lacks rfl rfl ⟨by decide, by decide⟩ ⟨by decide, by decide⟩ (ci := 10) (by decide) (zCell_k kd_117) rfl rfl rfl rfl (Nat.le_of_ble_eq_true rfl) dX10_grows_3) (fun r_1 M1 hq => ?_)
  obtain ⟨u_2, rfl, h⟩ := hq
  refine zm_if_ge (tgt := 11) C dX10_grows_6 (by decide) (fun hc_3 => ?_) (fun hc_3 => ?_)
  · have h := h.1 hc_3
    refine zm_aload_n C dX10_grows_11 rfl 0 rfl ?_
    refine zm_iload_n C dX10_grows_12 rfl 1 rfl ?_
    refine zm_iload_n C dX10_grows_13 rfl 2 rfl ?_
    refine zm_ci (zr_V (As := [.int x1, .int x2]) (rest := []) C (c_X10_path l g U u_2 W x1 x2 h) wd_1227 wd_1229 wp_38 wd_11 wd_1230 hy_X10_path rfl rfl ⟨by decide, by decide⟩ ⟨by decide, by decide⟩ (ci := 10) (by decide) (zCell_k kd_117) rfl rfl rfl rfl (Nat.le_of_ble_eq_true rfl) dX10_grows_14) (fun r_4 M1 hq => ?_)
    obtain ⟨rfl, h⟩ := hq
    refine zm_istore_n (lv' := [(3, .int r_4), (0, .ref (g.2.2.1 117)), (1, .int x1), (2, .int x2)]) C dX10_grows_17 rfl (by decide) rfl ?_
    refine zm_iload_n C dX10_grows_18 rfl 0 rfl ?_
    refine zm_if_ge (tgt := 30) C dX10_grows_19 (by decide) (fun hc_6 => ?_) (fun hc_6 => ?_)
    · have h := h.1 hc_6
      refine zm_aload_n C dX10_grows_30 rfl 1 rfl ?_
      refine zm_cv (zr_V (As := []) (rest := []) C (c_X10_endsGame l g U u_2 W  h) wd_1196 wd_1198 wp_32 wd_11 wd_1199 hy_X10_endsGame rfl rfl ⟨by decide, by decide⟩ ⟨by decide, by decide⟩ (ci := 10) (by decide) (zCell_k kd_117) rfl rfl rfl rfl (Nat.le_of_ble_eq_true rfl) dX10_grows_31) (fun M1 hq => ?_)
      obtain ⟨u_8, rfl, h⟩ := hq
      refine zm_aload_n C dX10_grows_34 rfl 1 rfl ?_
      refine gf_RX10_9 (k1 := 118) C kd_117 rfl dX10_grows_35 ?_
      refine zm_iconst (v := 3) C dX10_grows_38 (by decide) ?_
      refine zm_dup2_11 C dX10_grows_39 rfl rfl ?_
      obtain ⟨hg_9, h⟩ := h
      refine zq_ld_m C kd_118 ln_118 hg_9 dX10_grows_40 ?_
      refine zm_iconst (v := 1) C dX10_grows_41 (by decide) ?_
      refine zm_isub C dX10_grows_42 ?_
      obtain ⟨hg_10, h⟩ := h
      refine zq_st_m C kd_118 ln_118 hg_10 dX10_grows_43 (fun u_11 hu_11 => ?_)
      have h := h u_11 hu_11
      refine zm_bipush (v := 7) C dX10_grows_44 (by decide) ?_
      refine zm_iconst (v := 2) C dX10_grows_46 (by decide) ?_
      refine zm_iload_n C dX10_grows_47 rfl 0 rfl ?_
      refine zm_imul C dX10_grows_48 ?_
      refine zm_iadd C dX10_grows_49 ?_
      refine zm_nmI (fun x4_12 hx4_12 => ?_)
      have h := h x4_12 hx4_12
      refine zm_istore (lv' := [(4, .int x4_12), (3, .int r_4), (0, .ref (g.2.2.1 117)), (1, .int x1), (2, .int x2)]) C dX10_grows_50 (by decide) rfl ?_
      obtain ⟨nn, h⟩ := h
      exact zm_sub [2, 0] rfl (vl_X10_grows_52 C hr  nn _ _ h)
    · have h := h.2 hc_6
      refine zm_aload_n C dX10_grows_22 rfl 1 rfl ?_
      refine zm_bipush (v := 6) C dX10_grows_23 (by decide) ?_
      refine zm_iload_n C dX10_grows_25 rfl 2 rfl ?_
      refine zm_ci (zr_V (As := [.int (6 : Int32), .int x1]) (rest := []) C (c_X10_refuses l g U u_2 W (6 : Int32) x1 h) wd_1192 wd_1194 wp_31 wd_11 wd_1195 hy_X10_refuses rfl rfl ⟨by decide, by decide⟩ ⟨by decide, by decide⟩ (ci := 10) (by decide) (zCell_k kd_117) rfl rfl rfl rfl (Nat.le_of_ble_eq_true rfl) dX10_grows_26) (fun r_13 M1 hq => ?_)
      obtain ⟨u_14, rfl, h⟩ := hq
      exact zm_iret C hr dX10_grows_29 ⟨_, rfl, h⟩
  · have h := h.2 hc_3
    refine zm_iconst (v := -1) C dX10_grows_9 (by decide) ?_
    exact zm_iret C hr dX10_grows_10 ⟨_, rfl, h⟩
abbrev rm_X10_grow : Room := { frames := 4, cells := 0, slots := 0, locals := 89 }
def w_X10_grow (x1 : Int32) (x2 : Int32) (u : MU) (Q : Int32 → MU → Prop) : Prop := w_X10_tries  u (fun u_2 => w_X10_grows x1 x2 u_2 (fun r_3 u_4 => w_X10_keeps r_3 u_4 (fun r_5 u_6 => Q r_5 u_6)))
set_option maxHeartbeats 4000000 in
set_option maxRecDepth 100000 in
theorem c_X10_grow (l : Launch) (g : GE) (U : MU) (u : MU) (W : (Nat → Int64) × (Nat → UInt64)) (x1 : Int32) (x2 : Int32) {Q : Int32 → MU → Prop} (h : w_X10_grow x1 x2 u Q) : Met l yX10_grow (.code yX10_grow cX10_grow 3 (Option.some Jvm.ClassFile.FieldType.int) :: TB) rm_X10_grow (zPc g (U, u, W) [.ref (g.2.2.1 117), .int x1, .int x2]) (zQi g (zPm U W Q)) 0 0 (zA g) := by
  unfold w_X10_grow at h
  refine zMet (own := RX10) [(0, .ref (g.2.2.1 117)), (1, .int x1), (2, .int x2)] (by decide +kernel) rfl (Nat.le_of_ble_eq_true rfl) rfl (fun p e s m args below meth c C hr => ?_)
  refine zm_aload_n C dX10_grow_0 rfl 0 rfl ?_
  refine zm_cv (zr_V (As := []) (rest := []) C (c_X10_tries l g U u W  h) wd_1184 wd_1186 wp_29 wd_11 wd_1187 hy_X10_tries rfl rfl ⟨by decide, by decide⟩ ⟨by decide, by decide⟩ (ci := 10) (by decide) (zCell_k kd_117) rfl rfl rfl rfl (Nat.le_of_ble_eq_true rfl) dX10_grow_1) (fun M1 hq => ?_)
  obtain ⟨u_2, rfl, h⟩ := hq
  refine zm_aload_n C dX10_grow_4 rfl 0 rfl ?_
  refine zm_aload_n C dX10_grow_5 rfl 0 rfl ?_
  refine zm_iload_n C dX10_grow_6 rfl 1 rfl ?_
  refine zm_iload_n C dX10_grow_7 rfl 2 rfl ?_
  refine zm_ci (zr_V (As := [.int x1, .int x2]) (rest := [.ref (g.2.2.1 117)]) C (c_X10_grows l g U u_2 W x1 x2 h) wd_1235 wd_1237 wp_39 wd_11 wd_1238 hy_X10_grows rfl rfl ⟨by decide, by decide⟩ ⟨by decide, by decide⟩ (ci := 10) (by decide) (zCell_k kd_117) rfl rfl rfl rfl (Nat.le_of_ble_eq_true rfl) dX10_grow_8) (fun r_3 M1 hq => ?_)
  obtain ⟨u_4, rfl, h⟩ := hq
  refine zm_ci (zr_V (As := [.int r_3]) (rest := []) C (c_X10_keeps l g U u_4 W r_3 h) wd_1200 wd_1202 wp_33 wd_11 wd_1203 hy_X10_keeps rfl rfl ⟨by decide, by decide⟩ ⟨by decide, by decide⟩ (ci := 10) (by decide) (zCell_k kd_117) rfl rfl rfl rfl (Nat.le_of_ble_eq_true rfl) dX10_grow_11) (fun r_5 M1 hq => ?_)
  obtain ⟨u_6, rfl, h⟩ := hq
  exact zm_iret C hr dX10_grow_14 ⟨_, rfl, h⟩
abbrev rm_X10_traps : Room := { frames := 2, cells := 0, slots := 0, locals := 43 }
def w_X10_traps (x1 : Int32) (x2 : Int32) (u : MU) (Q : Int32 → MU → Prop) : Prop := w_X10_isBurrow u x1 (fun r_1 => ((¬ r_1 = 0) → w_X10_isTrap u x1 (fun r_4 => ((¬ r_4 = x2) → w_X10_endsGame  u (fun u_8 => vp_in (1 : Int32) 119 ∧ (vp_in (1 : Int32) 119 ∧ (∀ u_11, u_11 = u2 u_8 118 ((1 : Int32)).toNatClampNeg ((u_8 118 ((1 : Int32)).toNatClampNeg) ^^^ ((1 : Int32) <<< (x1 &&& 31))) → vp_in (1 : Int32) 119 ∧ (w_J6_bitCount_0f7a4 (u_11 118 ((1 : Int32)).toNatClampNeg) (fun r_13 => Q r_13 u_11)))))) ∧ ((r_4 = x2) → w_X10_refuses (5 : Int32) (0 : Int32) u (fun r_15 u_16 => Q r_15 u_16)))) ∧ ((r_1 = 0) → w_X10_refuses (3 : Int32) x1 u (fun r_17 u_18 => Q r_17 u_18)))
set_option maxHeartbeats 4000000 in
set_option maxRecDepth 100000 in
theorem c_X10_traps (l : Launch) (g : GE) (U : MU) (u : MU) (W : (Nat → Int64) × (Nat → UInt64)) (x1 : Int32) (x2 : Int32) {Q : Int32 → MU → Prop} (h : w_X10_traps x1 x2 u Q) : Met l yX10_traps (.code yX10_traps cX10_traps 3 (Option.some Jvm.ClassFile.FieldType.int) :: TB) rm_X10_traps (zPc g (U, u, W) [.ref (g.2.2.1 117), .int x1, .int x2]) (zQi g (zPm U W Q)) 0 0 (zA g) := by
  unfold w_X10_traps at h
  refine zMet (own := RX10) [(0, .ref (g.2.2.1 117)), (1, .int x1), (2, .int x2)] (by decide +kernel) rfl (Nat.le_of_ble_eq_true rfl) rfl (fun p e s m args below meth c C hr => ?_)
  refine zm_aload_n C dX10_traps_0 rfl 0 rfl ?_
  refine zm_iload_n C dX10_traps_1 rfl 1 rfl ?_
  refine zm_ci (zr_V (As := [.int x1]) (rest := []) C (c_X10_isBurrow l g U u W x1 h) wd_1220 wd_1222 wp_37 wd_11 wd_1223 hy_X10_isBurrow rfl rfl ⟨by decide, by decide⟩ ⟨by decide, by decide⟩ (ci := 10) (by decide) (zCell_k kd_117) rfl rfl rfl rfl (Nat.le_of_ble_eq_true rfl) dX10_traps_2) (fun r_1 M1 hq => ?_)
  obtain ⟨rfl, h⟩ := hq
  refine zm_if_ne (tgt := 15) C dX10_traps_5 (by decide) (fun hc_3 => ?_) (fun hc_3 => ?_)
  · have h := h.1 hc_3
    refine zm_aload_n C dX10_traps_15 rfl 0 rfl ?_
    refine zm_iload_n C dX10_traps_16 rfl 1 rfl ?_
    refine zm_ci (zr_V (As := [.int x1]) (rest := []) C (c_X10_isTrap l g U u W x1 h) wd_1247 wd_1249 wp_41 wd_11 wd_1250 hy_X10_isTrap rfl rfl ⟨by decide, by decide⟩ ⟨by decide, by decide⟩ (ci := 10) (by decide) (zCell_k kd_117) rfl rfl rfl rfl (Nat.le_of_ble_eq_true rfl) dX10_traps_17) (fun r_4 M1 hq => ?_)
    obtain ⟨rfl, h⟩ := hq
    refine zm_iload_n C dX10_traps_20 rfl 2 rfl ?_
    refine zm_icmp_ne (tgt := 31) C dX10_traps_21 (by decide) (fun hc_6 => ?_) (fun hc_6 => ?_)
    · have h := h.1 hc_6
      refine zm_aload_n C dX10_traps_31 rfl 0 rfl ?_
      refine zm_cv (zr_V (As := []) (rest := []) C (c_X10_endsGame l g U u W  h) wd_1196 wd_1198 wp_32 wd_11 wd_1199 hy_X10_endsGame rfl rfl ⟨by decide, by decide⟩ ⟨by decide, by decide⟩ (ci := 10) (by decide) (zCell_k kd_117) rfl rfl rfl rfl (Nat.le_of_ble_eq_true rfl) dX10_traps_32) (fun M1 hq => ?_)
      obtain ⟨u_8, rfl, h⟩ := hq
      refine zm_aload_n C dX10_traps_35 rfl 0 rfl ?_
      refine gf_RX10_9 (k1 := 118) C kd_117 rfl dX10_traps_36 ?_
      refine zm_iconst (v := 1) C dX10_traps_39 (by decide) ?_
      refine zm_dup2_11 C dX10_traps_40 rfl rfl ?_
      obtain ⟨hg_9, h⟩ := h
      refine zq_ld_m C kd_118 ln_118 hg_9 dX10_traps_41 ?_
      refine zm_iconst (v := 1) C dX10_traps_42 (by decide) ?_
      refine zm_iload_n C dX10_traps_43 rfl 1 rfl ?_
      refine zm_ishl C dX10_traps_44 ?_
      refine zm_ixor C dX10_traps_45 ?_
      obtain ⟨hg_10, h⟩ := h
      refine zq_st_m C kd_118 ln_118 hg_10 dX10_traps_46 (fun u_11 hu_11 => ?_)
      have h := h u_11 hu_11
      refine zm_aload_n C dX10_traps_47 rfl 0 rfl ?_
      refine gf_RX10_9 (k1 := 118) C kd_117 rfl dX10_traps_48 ?_
      refine zm_iconst (v := 1) C dX10_traps_51 (by decide) ?_
      obtain ⟨hg_12, h⟩ := h
      refine zq_ld_m C kd_118 ln_118 hg_12 dX10_traps_52 ?_
      refine zm_ci (zr_Sx (As := [.int (u_11 118 ((1 : Int32)).toNatClampNeg)]) (rest := []) C (c_J6_bitCount_0f7a4 l g (U, u_11, W) (u_11 118 ((1 : Int32)).toNatClampNeg) h) wd_1251 wd_526 wd_18 wd_527 hz_J6_bitCount_0f7a4 rfl rfl ⟨by decide, by decide⟩ ⟨by decide, by decide⟩ rfl rfl (Nat.le_of_ble_eq_true rfl) dX10_traps_53) (fun r_13 M1 hq => ?_)
      obtain ⟨rfl, h⟩ := hq
      exact zm_iret C hr dX10_traps_56 ⟨_, rfl, h⟩
    · have h := h.2 hc_6
      refine zm_aload_n C dX10_traps_24 rfl 0 rfl ?_
      refine zm_iconst (v := 5) C dX10_traps_25 (by decide) ?_
      refine zm_iconst (v := 0) C dX10_traps_26 (by decide) ?_
      refine zm_ci (zr_V (As := [.int (5 : Int32), .int (0 : Int32)]) (rest := []) C (c_X10_refuses l g U u W (5 : Int32) (0 : Int32) h) wd_1192 wd_1194 wp_31 wd_11 wd_1195 hy_X10_refuses rfl rfl ⟨by decide, by decide⟩ ⟨by decide, by decide⟩ (ci := 10) (by decide) (zCell_k kd_117) rfl rfl rfl rfl (Nat.le_of_ble_eq_true rfl) dX10_traps_27) (fun r_15 M1 hq => ?_)
      obtain ⟨u_16, rfl, h⟩ := hq
      exact zm_iret C hr dX10_traps_30 ⟨_, rfl, h⟩
  · have h := h.2 hc_3
    refine zm_aload_n C dX10_traps_8 rfl 0 rfl ?_
    refine zm_iconst (v := 3) C dX10_traps_9 (by decide) ?_
    refine zm_iload_n C dX10_traps_10 rfl 1 rfl ?_
    refine zm_ci (zr_V (As := [.int (3 : Int32), .int x1]) (rest := []) C (c_X10_refuses l g U u W (3 : Int32) x1 h) wd_1192 wd_1194 wp_31 wd_11 wd_1195 hy_X10_refuses rfl rfl ⟨by decide, by decide⟩ ⟨by decide, by decide⟩ (ci := 10) (by decide) (zCell_k kd_117) rfl rfl rfl rfl (Nat.le_of_ble_eq_true rfl) dX10_traps_11) (fun r_17 M1 hq => ?_)
    obtain ⟨u_18, rfl, h⟩ := hq
    exact zm_iret C hr dX10_traps_14 ⟨_, rfl, h⟩
abbrev rm_X10_trap : Room := { frames := 3, cells := 0, slots := 0, locals := 65 }
def w_X10_trap (x1 : Int32) (x2 : Int32) (u : MU) (Q : Int32 → MU → Prop) : Prop := w_X10_tries  u (fun u_2 => w_X10_traps x1 x2 u_2 (fun r_3 u_4 => w_X10_keeps r_3 u_4 (fun r_5 u_6 => Q r_5 u_6)))
set_option maxHeartbeats 4000000 in
set_option maxRecDepth 100000 in
theorem c_X10_trap (l : Launch) (g : GE) (U : MU) (u : MU) (W : (Nat → Int64) × (Nat → UInt64)) (x1 : Int32) (x2 : Int32) {Q : Int32 → MU → Prop} (h : w_X10_trap x1 x2 u Q) : Met l yX10_trap (.code yX10_trap cX10_trap 3 (Option.some Jvm.ClassFile.FieldType.int) :: TB) rm_X10_trap (zPc g (U, u, W) [.ref (g.2.2.1 117), .int x1, .int x2]) (zQi g (zPm U W Q)) 0 0 (zA g) := by
  unfold w_X10_trap at h
  refine zMet (own := RX10) [(0, .ref (g.2.2.1 117)), (1, .int x1), (2, .int x2)] (by decide +kernel) rfl (Nat.le_of_ble_eq_true rfl) rfl (fun p e s m args below meth c C hr => ?_)
  refine zm_aload_n C dX10_trap_0 rfl 0 rfl ?_
  refine zm_cv (zr_V (As := []) (rest := []) C (c_X10_tries l g U u W  h) wd_1184 wd_1186 wp_29 wd_11 wd_1187 hy_X10_tries rfl rfl ⟨by decide, by decide⟩ ⟨by decide, by decide⟩ (ci := 10) (by decide) (zCell_k kd_117) rfl rfl rfl rfl (Nat.le_of_ble_eq_true rfl) dX10_trap_1) (fun M1 hq => ?_)
  obtain ⟨u_2, rfl, h⟩ := hq
  refine zm_aload_n C dX10_trap_4 rfl 0 rfl ?_
  refine zm_aload_n C dX10_trap_5 rfl 0 rfl ?_
  refine zm_iload_n C dX10_trap_6 rfl 1 rfl ?_
  refine zm_iload_n C dX10_trap_7 rfl 2 rfl ?_
  refine zm_ci (zr_V (As := [.int x1, .int x2]) (rest := [.ref (g.2.2.1 117)]) C (c_X10_traps l g U u_2 W x1 x2 h) wd_1243 wd_1245 wp_40 wd_11 wd_1246 hy_X10_traps rfl rfl ⟨by decide, by decide⟩ ⟨by decide, by decide⟩ (ci := 10) (by decide) (zCell_k kd_117) rfl rfl rfl rfl (Nat.le_of_ble_eq_true rfl) dX10_trap_8) (fun r_3 M1 hq => ?_)
  obtain ⟨u_4, rfl, h⟩ := hq
  refine zm_ci (zr_V (As := [.int r_3]) (rest := []) C (c_X10_keeps l g U u_4 W r_3 h) wd_1200 wd_1202 wp_33 wd_11 wd_1203 hy_X10_keeps rfl rfl ⟨by decide, by decide⟩ ⟨by decide, by decide⟩ (ci := 10) (by decide) (zCell_k kd_117) rfl rfl rfl rfl (Nat.le_of_ble_eq_true rfl) dX10_trap_11) (fun r_5 M1 hq => ?_)
  obtain ⟨u_6, rfl, h⟩ := hq
  exact zm_iret C hr dX10_trap_14 ⟨_, rfl, h⟩
abbrev rm_X10_flocks : Room := { frames := 1, cells := 0, slots := 0, locals := 22 }
def w_X10_flocks (x1 : Int32) (u : MU) (Q : Int32 → MU → Prop) : Prop := w_X10_in x1 (1 : Int32) (2 : Int32) (fun r_1 => ((¬ r_1 = 0) → vp_in (2 : Int32) 119 ∧ (((¬ (u 118 ((2 : Int32)).toNatClampNeg) = x1) → w_X10_endsGame  u (fun u_7 => vp_in (2 : Int32) 119 ∧ (∀ u_9, u_9 = u2 u_7 118 ((2 : Int32)).toNatClampNeg x1 → Q ((3 : Int32) - x1) u_9))) ∧ (((u 118 ((2 : Int32)).toNatClampNeg) = x1) → w_X10_refuses (5 : Int32) (0 : Int32) u (fun r_10 u_11 => Q r_10 u_11)))) ∧ ((r_1 = 0) → w_X10_refuses (1 : Int32) (0 : Int32) u (fun r_12 u_13 => Q r_12 u_13)))
set_option maxHeartbeats 4000000 in
set_option maxRecDepth 100000 in
theorem c_X10_flocks (l : Launch) (g : GE) (U : MU) (u : MU) (W : (Nat → Int64) × (Nat → UInt64)) (x1 : Int32) {Q : Int32 → MU → Prop} (h : w_X10_flocks x1 u Q) : Met l yX10_flocks (.code yX10_flocks cX10_flocks 2 (Option.some Jvm.ClassFile.FieldType.int) :: TB) rm_X10_flocks (zPc g (U, u, W) [.ref (g.2.2.1 117), .int x1]) (zQi g (zPm U W Q)) 0 0 (zA g) := by
  unfold w_X10_flocks at h
  refine zMet (own := RX10) [(0, .ref (g.2.2.1 117)), (1, .int x1)] (by decide +kernel) rfl (Nat.le_of_ble_eq_true rfl) rfl (fun p e s m args below meth c C hr => ?_)
  refine zm_iload_n C dX10_flocks_0 rfl 1 rfl ?_
  refine zm_iconst (v := 1) C dX10_flocks_1 (by decide) ?_
  refine zm_iconst (v := 2) C dX10_flocks_2 (by decide) ?_
  refine zm_ci (zr_S (As := [.int x1, .int (1 : Int32), .int (2 : Int32)]) (rest := []) C (c_X10_in l g (U, u, W) x1 (1 : Int32) (2 : Int32) h) wd_1224 wd_1225 wd_11 wd_1226 hy_X10_in rfl rfl ⟨by decide, by decide⟩ ⟨by decide, by decide⟩ rfl rfl (Nat.le_of_ble_eq_true rfl) dX10_flocks_3) (fun r_1 M1 hq => ?_)
  obtain ⟨rfl, h⟩ := hq
  refine zm_if_ne (tgt := 16) C dX10_flocks_6 (by decide) (fun hc_3 => ?_) (fun hc_3 => ?_)
  · have h := h.1 hc_3
    refine zm_aload_n C dX10_flocks_16 rfl 0 rfl ?_
    refine gf_RX10_9 (k1 := 118) C kd_117 rfl dX10_flocks_17 ?_
    refine zm_iconst (v := 2) C dX10_flocks_20 (by decide) ?_
    obtain ⟨hg_4, h⟩ := h
    refine zq_ld_m C kd_118 ln_118 hg_4 dX10_flocks_21 ?_
    refine zm_iload_n C dX10_flocks_22 rfl 1 rfl ?_
    refine zm_icmp_ne (tgt := 33) C dX10_flocks_23 (by decide) (fun hc_5 => ?_) (fun hc_5 => ?_)
    · have h := h.1 hc_5
      refine zm_aload_n C dX10_flocks_33 rfl 0 rfl ?_
      refine zm_cv (zr_V (As := []) (rest := []) C (c_X10_endsGame l g U u W  h) wd_1196 wd_1198 wp_32 wd_11 wd_1199 hy_X10_endsGame rfl rfl ⟨by decide, by decide⟩ ⟨by decide, by decide⟩ (ci := 10) (by decide) (zCell_k kd_117) rfl rfl rfl rfl (Nat.le_of_ble_eq_true rfl) dX10_flocks_34) (fun M1 hq => ?_)
      obtain ⟨u_7, rfl, h⟩ := hq
      refine zm_aload_n C dX10_flocks_37 rfl 0 rfl ?_
      refine gf_RX10_9 (k1 := 118) C kd_117 rfl dX10_flocks_38 ?_
      refine zm_iconst (v := 2) C dX10_flocks_41 (by decide) ?_
      refine zm_iload_n C dX10_flocks_42 rfl 1 rfl ?_
      obtain ⟨hg_8, h⟩ := h
      refine zq_st_m C kd_118 ln_118 hg_8 dX10_flocks_43 (fun u_9 hu_9 => ?_)
      have h := h u_9 hu_9
      refine zm_iconst (v := 3) C dX10_flocks_44 (by decide) ?_
      refine zm_iload_n C dX10_flocks_45 rfl 1 rfl ?_
      refine zm_isub C dX10_flocks_46 ?_
      exact zm_iret C hr dX10_flocks_47 ⟨_, rfl, h⟩
    · have h := h.2 hc_5
      refine zm_aload_n C dX10_flocks_26 rfl 0 rfl ?_
      refine zm_iconst (v := 5) C dX10_flocks_27 (by decide) ?_
      refine zm_iconst (v := 0) C dX10_flocks_28 (by decide) ?_
      refine zm_ci (zr_V (As := [.int (5 : Int32), .int (0 : Int32)]) (rest := []) C (c_X10_refuses l g U u W (5 : Int32) (0 : Int32) h) wd_1192 wd_1194 wp_31 wd_11 wd_1195 hy_X10_refuses rfl rfl ⟨by decide, by decide⟩ ⟨by decide, by decide⟩ (ci := 10) (by decide) (zCell_k kd_117) rfl rfl rfl rfl (Nat.le_of_ble_eq_true rfl) dX10_flocks_29) (fun r_10 M1 hq => ?_)
      obtain ⟨u_11, rfl, h⟩ := hq
      exact zm_iret C hr dX10_flocks_32 ⟨_, rfl, h⟩
  · have h := h.2 hc_3
    refine zm_aload_n C dX10_flocks_9 rfl 0 rfl ?_
    refine zm_iconst (v := 1) C dX10_flocks_10 (by decide) ?_
    refine zm_iconst (v := 0) C dX10_flocks_11 (by decide) ?_
    refine zm_ci (zr_V (As := [.int (1 : Int32), .int (0 : Int32)]) (rest := []) C (c_X10_refuses l g U u W (1 : Int32) (0 : Int32) h) wd_1192 wd_1194 wp_31 wd_11 wd_1195 hy_X10_refuses rfl rfl ⟨by decide, by decide⟩ ⟨by decide, by decide⟩ (ci := 10) (by decide) (zCell_k kd_117) rfl rfl rfl rfl (Nat.le_of_ble_eq_true rfl) dX10_flocks_12) (fun r_12 M1 hq => ?_)
    obtain ⟨u_13, rfl, h⟩ := hq
    exact zm_iret C hr dX10_flocks_15 ⟨_, rfl, h⟩
abbrev rm_X10_flock : Room := { frames := 2, cells := 0, slots := 0, locals := 43 }
def w_X10_flock (x1 : Int32) (u : MU) (Q : Int32 → MU → Prop) : Prop := w_X10_tries  u (fun u_2 => w_X10_flocks x1 u_2 (fun r_3 u_4 => w_X10_keeps r_3 u_4 (fun r_5 u_6 => Q r_5 u_6)))
set_option maxHeartbeats 4000000 in
set_option maxRecDepth 100000 in
theorem c_X10_flock (l : Launch) (g : GE) (U : MU) (u : MU) (W : (Nat → Int64) × (Nat → UInt64)) (x1 : Int32) {Q : Int32 → MU → Prop} (h : w_X10_flock x1 u Q) : Met l yX10_flock (.code yX10_flock cX10_flock 2 (Option.some Jvm.ClassFile.FieldType.int) :: TB) rm_X10_flock (zPc g (U, u, W) [.ref (g.2.2.1 117), .int x1]) (zQi g (zPm U W Q)) 0 0 (zA g) := by
  unfold w_X10_flock at h
  refine zMet (own := RX10) [(0, .ref (g.2.2.1 117)), (1, .int x1)] (by decide +kernel) rfl (Nat.le_of_ble_eq_true rfl) rfl (fun p e s m args below meth c C hr => ?_)
  refine zm_aload_n C dX10_flock_0 rfl 0 rfl ?_
  refine zm_cv (zr_V (As := []) (rest := []) C (c_X10_tries l g U u W  h) wd_1184 wd_1186 wp_29 wd_11 wd_1187 hy_X10_tries rfl rfl ⟨by decide, by decide⟩ ⟨by decide, by decide⟩ (ci := 10) (by decide) (zCell_k kd_117) rfl rfl rfl rfl (Nat.le_of_ble_eq_true rfl) dX10_flock_1) (fun M1 hq => ?_)
  obtain ⟨u_2, rfl, h⟩ := hq
  refine zm_aload_n C dX10_flock_4 rfl 0 rfl ?_
  refine zm_aload_n C dX10_flock_5 rfl 0 rfl ?_
  refine zm_iload_n C dX10_flock_6 rfl 1 rfl ?_
  refine zm_ci (zr_V (As := [.int x1]) (rest := [.ref (g.2.2.1 117)]) C (c_X10_flocks l g U u_2 W x1 h) wd_1256 wd_1258 wp_42 wd_11 wd_1259 hy_X10_flocks rfl rfl ⟨by decide, by decide⟩ ⟨by decide, by decide⟩ (ci := 10) (by decide) (zCell_k kd_117) rfl rfl rfl rfl (Nat.le_of_ble_eq_true rfl) dX10_flock_7) (fun r_3 M1 hq => ?_)
  obtain ⟨u_4, rfl, h⟩ := hq
  refine zm_ci (zr_V (As := [.int r_3]) (rest := []) C (c_X10_keeps l g U u_4 W r_3 h) wd_1200 wd_1202 wp_33 wd_11 wd_1203 hy_X10_keeps rfl rfl ⟨by decide, by decide⟩ ⟨by decide, by decide⟩ (ci := 10) (by decide) (zCell_k kd_117) rfl rfl rfl rfl (Nat.le_of_ble_eq_true rfl) dX10_flock_10) (fun r_5 M1 hq => ?_)
  obtain ⟨u_6, rfl, h⟩ := hq
  exact zm_iret C hr dX10_flock_13 ⟨_, rfl, h⟩
abbrev rm_X10_begins : Room := { frames := 4, cells := 0, slots := 0, locals := 87 }
def w_X10_begins (x1 : Int32) (u : MU) (Q : Int32 → MU → Prop) : Prop := w_X10_isPosition u x1 (fun r_1 => ((¬ r_1 = 0) → w_X10_nears  u (fun u_5 => vp_in (4 : Int32) 119 ∧ (∀ u_7, u_7 = u2 u_5 118 ((4 : Int32)).toNatClampNeg (x1 + (1 : Int32)) → vp_in (5 : Int32) 119 ∧ (∀ u_9, u_9 = u2 u_7 118 ((5 : Int32)).toNatClampNeg (0 : Int32) → vp_in (6 : Int32) 119 ∧ (vp_in (6 : Int32) 119 ∧ (∀ u_12, u_12 = u2 u_9 118 ((6 : Int32)).toNatClampNeg ((u_9 118 ((6 : Int32)).toNatClampNeg) + (1 : Int32)) → w_X10_finds x1 u_12 (fun u_14 => Q (u_14 117 25) u_14))))))) ∧ ((r_1 = 0) → w_X10_refuses (7 : Int32) x1 u (fun r_15 u_16 => Q r_15 u_16)))
set_option maxHeartbeats 4000000 in
set_option maxRecDepth 100000 in
theorem c_X10_begins (l : Launch) (g : GE) (U : MU) (u : MU) (W : (Nat → Int64) × (Nat → UInt64)) (x1 : Int32) {Q : Int32 → MU → Prop} (h : w_X10_begins x1 u Q) : Met l yX10_begins (.code yX10_begins cX10_begins 2 (Option.some Jvm.ClassFile.FieldType.int) :: TB) rm_X10_begins (zPc g (U, u, W) [.ref (g.2.2.1 117), .int x1]) (zQi g (zPm U W Q)) 0 0 (zA g) := by
  unfold w_X10_begins at h
  refine zMet (own := RX10) [(0, .ref (g.2.2.1 117)), (1, .int x1)] (by decide +kernel) rfl (Nat.le_of_ble_eq_true rfl) rfl (fun p e s m args below meth c C hr => ?_)
  refine zm_aload_n C dX10_begins_0 rfl 0 rfl ?_
  refine zm_iload_n C dX10_begins_1 rfl 1 rfl ?_
  refine zm_ci (zr_V (As := [.int x1]) (rest := []) C (c_X10_isPosition l g U u W x1 h) wd_1268 wd_1270 wp_44 wd_11 wd_1271 hy_X10_isPosition rfl rfl ⟨by decide, by decide⟩ ⟨by decide, by decide⟩ (ci := 10) (by decide) (zCell_k kd_117) rfl rfl rfl rfl (Nat.le_of_ble_eq_true rfl) dX10_begins_2) (fun r_1 M1 hq => ?_)
  obtain ⟨rfl, h⟩ := hq
  refine zm_if_ne (tgt := 16) C dX10_begins_5 (by decide) (fun hc_3 => ?_) (fun hc_3 => ?_)
  · have h := h.1 hc_3
    refine zm_aload_n C dX10_begins_16 rfl 0 rfl ?_
    refine zm_cv (zr_V (As := []) (rest := []) C (c_X10_nears l g U u W  h) wd_1285 wd_1287 wp_46 wd_11 wd_1288 hy_X10_nears rfl rfl ⟨by decide, by decide⟩ ⟨by decide, by decide⟩ (ci := 10) (by decide) (zCell_k kd_117) rfl rfl rfl rfl (Nat.le_of_ble_eq_true rfl) dX10_begins_17) (fun M1 hq => ?_)
    obtain ⟨u_5, rfl, h⟩ := hq
    refine zm_aload_n C dX10_begins_20 rfl 0 rfl ?_
    refine gf_RX10_9 (k1 := 118) C kd_117 rfl dX10_begins_21 ?_
    refine zm_iconst (v := 4) C dX10_begins_24 (by decide) ?_
    refine zm_iload_n C dX10_begins_25 rfl 1 rfl ?_
    refine zm_iconst (v := 1) C dX10_begins_26 (by decide) ?_
    refine zm_iadd C dX10_begins_27 ?_
    obtain ⟨hg_6, h⟩ := h
    refine zq_st_m C kd_118 ln_118 hg_6 dX10_begins_28 (fun u_7 hu_7 => ?_)
    have h := h u_7 hu_7
    refine zm_aload_n C dX10_begins_29 rfl 0 rfl ?_
    refine gf_RX10_9 (k1 := 118) C kd_117 rfl dX10_begins_30 ?_
    refine zm_iconst (v := 5) C dX10_begins_33 (by decide) ?_
    refine zm_iconst (v := 0) C dX10_begins_34 (by decide) ?_
    obtain ⟨hg_8, h⟩ := h
    refine zq_st_m C kd_118 ln_118 hg_8 dX10_begins_35 (fun u_9 hu_9 => ?_)
    have h := h u_9 hu_9
    refine zm_aload_n C dX10_begins_36 rfl 0 rfl ?_
    refine gf_RX10_9 (k1 := 118) C kd_117 rfl dX10_begins_37 ?_
    refine zm_bipush (v := 6) C dX10_begins_40 (by decide) ?_
    refine zm_dup2_11 C dX10_begins_42 rfl rfl ?_
    obtain ⟨hg_10, h⟩ := h
    refine zq_ld_m C kd_118 ln_118 hg_10 dX10_begins_43 ?_
    refine zm_iconst (v := 1) C dX10_begins_44 (by decide) ?_
    refine zm_iadd C dX10_begins_45 ?_
    obtain ⟨hg_11, h⟩ := h
    refine zq_st_m C kd_118 ln_118 hg_11 dX10_begins_46 (fun u_12 hu_12 => ?_)
    have h := h u_12 hu_12
    refine zm_aload_n C dX10_begins_47 rfl 0 rfl ?_
    refine zm_iload_n C dX10_begins_48 rfl 1 rfl ?_
    refine zm_cv (zr_V (As := [.int x1]) (rest := []) C (c_X10_finds l g U u_12 W x1 h) wd_1289 wd_1291 wp_47 wd_11 wd_1292 hy_X10_finds rfl rfl ⟨by decide, by decide⟩ ⟨by decide, by decide⟩ (ci := 10) (by decide) (zCell_k kd_117) rfl rfl rfl rfl (Nat.le_of_ble_eq_true rfl) dX10_begins_49) (fun M1 hq => ?_)
    obtain ⟨u_14, rfl, h⟩ := hq
    refine zm_aload_n C dX10_begins_52 rfl 0 rfl ?_
    refine gf_RX10_103 C kd_117 dX10_begins_53 ?_
    exact zm_iret C hr dX10_begins_56 ⟨_, rfl, h⟩
  · have h := h.2 hc_3
    refine zm_aload_n C dX10_begins_8 rfl 0 rfl ?_
    refine zm_bipush (v := 7) C dX10_begins_9 (by decide) ?_
    refine zm_iload_n C dX10_begins_11 rfl 1 rfl ?_
    refine zm_ci (zr_V (As := [.int (7 : Int32), .int x1]) (rest := []) C (c_X10_refuses l g U u W (7 : Int32) x1 h) wd_1192 wd_1194 wp_31 wd_11 wd_1195 hy_X10_refuses rfl rfl ⟨by decide, by decide⟩ ⟨by decide, by decide⟩ (ci := 10) (by decide) (zCell_k kd_117) rfl rfl rfl rfl (Nat.le_of_ble_eq_true rfl) dX10_begins_12) (fun r_15 M1 hq => ?_)
    obtain ⟨u_16, rfl, h⟩ := hq
    exact zm_iret C hr dX10_begins_15 ⟨_, rfl, h⟩
abbrev rm_X10_begin : Room := { frames := 5, cells := 0, slots := 0, locals := 108 }
def w_X10_begin (x1 : Int32) (u : MU) (Q : Int32 → MU → Prop) : Prop := w_X10_tries  u (fun u_2 => w_X10_begins x1 u_2 (fun r_3 u_4 => w_X10_keeps r_3 u_4 (fun r_5 u_6 => Q r_5 u_6)))
set_option maxHeartbeats 4000000 in
set_option maxRecDepth 100000 in
theorem c_X10_begin (l : Launch) (g : GE) (U : MU) (u : MU) (W : (Nat → Int64) × (Nat → UInt64)) (x1 : Int32) {Q : Int32 → MU → Prop} (h : w_X10_begin x1 u Q) : Met l yX10_begin (.code yX10_begin cX10_begin 2 (Option.some Jvm.ClassFile.FieldType.int) :: TB) rm_X10_begin (zPc g (U, u, W) [.ref (g.2.2.1 117), .int x1]) (zQi g (zPm U W Q)) 0 0 (zA g) := by
  unfold w_X10_begin at h
  refine zMet (own := RX10) [(0, .ref (g.2.2.1 117)), (1, .int x1)] (by decide +kernel) rfl (Nat.le_of_ble_eq_true rfl) rfl (fun p e s m args below meth c C hr => ?_)
  refine zm_aload_n C dX10_begin_0 rfl 0 rfl ?_
  refine zm_cv (zr_V (As := []) (rest := []) C (c_X10_tries l g U u W  h) wd_1184 wd_1186 wp_29 wd_11 wd_1187 hy_X10_tries rfl rfl ⟨by decide, by decide⟩ ⟨by decide, by decide⟩ (ci := 10) (by decide) (zCell_k kd_117) rfl rfl rfl rfl (Nat.le_of_ble_eq_true rfl) dX10_begin_1) (fun M1 hq => ?_)
  obtain ⟨u_2, rfl, h⟩ := hq
  refine zm_aload_n C dX10_begin_4 rfl 0 rfl ?_
  refine zm_aload_n C dX10_begin_5 rfl 0 rfl ?_
  refine zm_iload_n C dX10_begin_6 rfl 1 rfl ?_
  refine zm_ci (zr_V (As := [.int x1]) (rest := [.ref (g.2.2.1 117)]) C (c_X10_begins l g U u_2 W x1 h) wd_1264 wd_1266 wp_43 wd_11 wd_1267 hy_X10_begins rfl rfl ⟨by decide, by decide⟩ ⟨by decide, by decide⟩ (ci := 10) (by decide) (zCell_k kd_117) rfl rfl rfl rfl (Nat.le_of_ble_eq_true rfl) dX10_begin_7) (fun r_3 M1 hq => ?_)
  obtain ⟨u_4, rfl, h⟩ := hq
  refine zm_ci (zr_V (As := [.int r_3]) (rest := []) C (c_X10_keeps l g U u_4 W r_3 h) wd_1200 wd_1202 wp_33 wd_11 wd_1203 hy_X10_keeps rfl rfl ⟨by decide, by decide⟩ ⟨by decide, by decide⟩ (ci := 10) (by decide) (zCell_k kd_117) rfl rfl rfl rfl (Nat.le_of_ble_eq_true rfl) dX10_begin_10) (fun r_5 M1 hq => ?_)
  obtain ⟨u_6, rfl, h⟩ := hq
  exact zm_iret C hr dX10_begin_13 ⟨_, rfl, h⟩
abbrev rm_X10_makes : Room := { frames := 2, cells := 0, slots := 0, locals := 47 }
def w_X10_makes (x1 : Int32) (x2 : Int32) (u : MU) (Q : MU → Prop) : Prop := vp_in (4 : Int32) 119 ∧ (∀ x3_2, x3_2 = ((u 118 ((4 : Int32)).toNatClampNeg) - (1 : Int32)) → vp_in (5 : Int32) 119 ∧ (vp_in ((39 : Int32) + (u 118 ((5 : Int32)).toNatClampNeg)) 119 ∧ (∀ u_5, u_5 = u2 u 118 (((39 : Int32) + (u 118 ((5 : Int32)).toNatClampNeg))).toNatClampNeg x3_2 → vp_in (5 : Int32) 119 ∧ (vp_in ((79 : Int32) + (u_5 118 ((5 : Int32)).toNatClampNeg)) 119 ∧ (∀ u_8, u_8 = u2 u_5 118 (((79 : Int32) + (u_5 118 ((5 : Int32)).toNatClampNeg))).toNatClampNeg (((8 : Int32) * x1) + x2) → vp_in (5 : Int32) 119 ∧ (vp_in (5 : Int32) 119 ∧ (∀ u_11, u_11 = u2 u_8 118 ((5 : Int32)).toNatClampNeg ((u_8 118 ((5 : Int32)).toNatClampNeg) + (1 : Int32)) → w_X10_behind x3_2 x1 x2 (fun r_12 => vp_in (4 : Int32) 119 ∧ (∀ u_15, u_15 = u2 u_11 118 ((4 : Int32)).toNatClampNeg (r_12 + (1 : Int32)) → Q u_15)))))))))
set_option maxHeartbeats 4000000 in
set_option maxRecDepth 100000 in
theorem c_X10_makes (l : Launch) (g : GE) (U : MU) (u : MU) (W : (Nat → Int64) × (Nat → UInt64)) (x1 : Int32) (x2 : Int32) {Q : MU → Prop} (h : w_X10_makes x1 x2 u Q) : Met l yX10_makes (.code yX10_makes cX10_makes 4 (Option.none : Option Jvm.ClassFile.FieldType) :: TB) rm_X10_makes (zPc g (U, u, W) [.ref (g.2.2.1 117), .int x1, .int x2]) (zQv g (zPmv U W Q)) 0 0 (zA g) := by
  unfold w_X10_makes at h
  refine zMet (own := RX10) [(0, .ref (g.2.2.1 117)), (1, .int x1), (2, .int x2)] (by decide +kernel) rfl (Nat.le_of_ble_eq_true rfl) rfl (fun p e s m args below meth c C hr => ?_)
  refine zm_aload_n C dX10_makes_0 rfl 0 rfl ?_
  refine gf_RX10_9 (k1 := 118) C kd_117 rfl dX10_makes_1 ?_
  refine zm_iconst (v := 4) C dX10_makes_4 (by decide) ?_
  obtain ⟨hg_1, h⟩ := h
  refine zq_ld_m C kd_118 ln_118 hg_1 dX10_makes_5 ?_
  refine zm_iconst (v := 1) C dX10_makes_6 (by decide) ?_
  refine zm_isub C dX10_makes_7 ?_
  refine zm_nmI (fun x3_2 hx3_2 => ?_)
  have h := h x3_2 hx3_2
  refine zm_istore_n (lv' := [(3, .int x3_2), (0, .ref (g.2.2.1 117)), (1, .int x1), (2, .int x2)]) C dX10_makes_8 rfl (by decide) rfl ?_
  refine zm_aload_n C dX10_makes_9 rfl 1 rfl ?_
  refine gf_RX10_9 (k1 := 118) C kd_117 rfl dX10_makes_10 ?_
  refine zm_bipush (v := 39) C dX10_makes_13 (by decide) ?_
  refine zm_aload_n C dX10_makes_15 rfl 1 rfl ?_
  refine gf_RX10_9 (k1 := 118) C kd_117 rfl dX10_makes_16 ?_
  refine zm_iconst (v := 5) C dX10_makes_19 (by decide) ?_
  obtain ⟨hg_3, h⟩ := h
  refine zq_ld_m C kd_118 ln_118 hg_3 dX10_makes_20 ?_
  refine zm_iadd C dX10_makes_21 ?_
  refine zm_iload_n C dX10_makes_22 rfl 0 rfl ?_
  obtain ⟨hg_4, h⟩ := h
  refine zq_st_m C kd_118 ln_118 hg_4 dX10_makes_23 (fun u_5 hu_5 => ?_)
  have h := h u_5 hu_5
  refine zm_aload_n C dX10_makes_24 rfl 1 rfl ?_
  refine gf_RX10_9 (k1 := 118) C kd_117 rfl dX10_makes_25 ?_
  refine zm_bipush (v := 79) C dX10_makes_28 (by decide) ?_
  refine zm_aload_n C dX10_makes_30 rfl 1 rfl ?_
  refine gf_RX10_9 (k1 := 118) C kd_117 rfl dX10_makes_31 ?_
  refine zm_iconst (v := 5) C dX10_makes_34 (by decide) ?_
  obtain ⟨hg_6, h⟩ := h
  refine zq_ld_m C kd_118 ln_118 hg_6 dX10_makes_35 ?_
  refine zm_iadd C dX10_makes_36 ?_
  refine zm_bipush (v := 8) C dX10_makes_37 (by decide) ?_
  refine zm_iload_n C dX10_makes_39 rfl 2 rfl ?_
  refine zm_imul C dX10_makes_40 ?_
  refine zm_iload_n C dX10_makes_41 rfl 3 rfl ?_
  refine zm_iadd C dX10_makes_42 ?_
  obtain ⟨hg_7, h⟩ := h
  refine zq_st_m C kd_118 ln_118 hg_7 dX10_makes_43 (fun u_8 hu_8 => ?_)
  have h := h u_8 hu_8
  refine zm_aload_n C dX10_makes_44 rfl 1 rfl ?_
  refine gf_RX10_9 (k1 := 118) C kd_117 rfl dX10_makes_45 ?_
  refine zm_iconst (v := 5) C dX10_makes_48 (by decide) ?_
  refine zm_dup2_11 C dX10_makes_49 rfl rfl ?_
  obtain ⟨hg_9, h⟩ := h
  refine zq_ld_m C kd_118 ln_118 hg_9 dX10_makes_50 ?_
  refine zm_iconst (v := 1) C dX10_makes_51 (by decide) ?_
  refine zm_iadd C dX10_makes_52 ?_
  obtain ⟨hg_10, h⟩ := h
  refine zq_st_m C kd_118 ln_118 hg_10 dX10_makes_53 (fun u_11 hu_11 => ?_)
  have h := h u_11 hu_11
  refine zm_aload_n C dX10_makes_54 rfl 1 rfl ?_
  refine gf_RX10_9 (k1 := 118) C kd_117 rfl dX10_makes_55 ?_
  refine zm_iconst (v := 4) C dX10_makes_58 (by decide) ?_
  refine zm_iload_n C dX10_makes_59 rfl 0 rfl ?_
  refine zm_iload_n C dX10_makes_60 rfl 2 rfl ?_
  refine zm_iload_n C dX10_makes_61 rfl 3 rfl ?_
  refine zm_ci (zr_S (As := [.int x3_2, .int x1, .int x2]) (rest := [.int (4 : Int32), .ref (g.2.2.1 118)]) C (c_X10_behind l g (U, u_11, W) x3_2 x1 x2 h) wd_1312 wd_1313 wd_11 wd_1314 hy_X10_behind rfl rfl ⟨by decide, by decide⟩ ⟨by decide, by decide⟩ rfl rfl (Nat.le_of_ble_eq_true rfl) dX10_makes_62) (fun r_12 M1 hq => ?_)
  obtain ⟨rfl, h⟩ := hq
  refine zm_iconst (v := 1) C dX10_makes_65 (by decide) ?_
  refine zm_iadd C dX10_makes_66 ?_
  obtain ⟨hg_14, h⟩ := h
  refine zq_st_m C kd_118 ln_118 hg_14 dX10_makes_67 (fun u_15 hu_15 => ?_)
  have h := h u_15 hu_15
  exact zm_vret C hr dX10_makes_68 ⟨_, rfl, h⟩
abbrev rm_X10_goes : Room := { frames := 3, cells := 0, slots := 0, locals := 70 }
def wb_X10_goes_95 (L58 : Int32 → Int32 → Int32 → Int32 → MU → Prop) (Q : Int32 → MU → Prop) (x1 : Int32) (x2 : Int32) (x4 : Int32) (s0 : Int32) (s1 : Int32) (u : MU) : Prop := ∀ x3_1, x3_1 = (s1 ||| s0) → ∀ x4_2, x4_2 = x4 + (1 : Int32) → L58 x1 x2 x3_1 x4_2 u
set_option maxHeartbeats 4000000 in
set_option maxRecDepth 100000 in
theorem vb_X10_goes_95 {p : Program} {l : Launch} {e : Env} {s : State} {m : MethodId} {args : Array Value} {below : List Frame} {meth : Method} {c : Code} {g : GE} {U : MU} {W : (Nat → Int64) × (Nat → UInt64)} {Q : Int32 → MU → Prop} (C : zCx p l s m args meth c g RX10 cX10_goes 5) (hr : meth.sig.returnType = (Option.some Jvm.ClassFile.FieldType.int)) {L58 : Int32 → Int32 → Int32 → Int32 → MU → Prop} (hL58 : ∀ (x1 : Int32) (x2 : Int32) (x3 : Int32) (x4 : Int32) (u : MU), L58 x1 x2 x3 x4 u → WM p l e rm_X10_goes s m args below meth c g 5 0 0 (MQ below (zQi g (zPm U W Q)) args s 0 0 (zA g)) 58 [(0, .ref (g.2.2.1 117)), (1, .int x1), (2, .int x2), (3, .int x3), (4, .int x4)] [] (U, u, W)) (x1 : Int32) (x2 : Int32) (x4 : Int32) (s0 : Int32) (s1 : Int32) (u : MU) (h : wb_X10_goes_95 L58  Q x1 x2 x4 s0 s1 u) : WM p l e rm_X10_goes s m args below meth c g 5 0 0 (MQ below (zQi g (zPm U W Q)) args s 0 0 (zA g)) 95 [(0, .ref (g.2.2.1 117)), (1, .int x1), (2, .int x2), (4, .int x4)] [.int s0, .int s1] (U, u, W) := by
  unfold wb_X10_goes_95 at h
  refine zm_ior C dX10_goes_95 ?_
  refine zm_nmI (fun x3_1 hx3_1 => ?_)
  have h := h x3_1 hx3_1
  refine zm_istore_n (lv' := [(3, .int x3_1), (0, .ref (g.2.2.1 117)), (1, .int x1), (2, .int x2), (4, .int x4)]) C dX10_goes_96 rfl (by decide) rfl ?_
  obtain ⟨x4_2, hx4_2⟩ : ∃ z, z = x4 + (1 : Int32) := ⟨_, rfl⟩
  have h := h x4_2 hx4_2
  refine zm_iinc (v := x4_2) (lv' := [(4, .int x4_2), (3, .int x3_1), (0, .ref (g.2.2.1 117)), (1, .int x1), (2, .int x2)]) C dX10_goes_97 4 rfl (by rw [hx4_2]; rfl) (by decide) rfl ?_
  refine zm_goto (tgt := 58) C dX10_goes_100 (by decide) ?_
  exact zm_sub [2, 3, 4, 1, 0] rfl (hL58 _ _ _ _ _ h)
def wb_X10_goes_94 (L58 : Int32 → Int32 → Int32 → Int32 → MU → Prop) (Q : Int32 → MU → Prop) (x1 : Int32) (x2 : Int32) (x4 : Int32) (s0 : Int32) (u : MU) : Prop := wb_X10_goes_95 L58  Q x1 x2 x4 (0 : Int32) s0 u
set_option maxHeartbeats 4000000 in
set_option maxRecDepth 100000 in
theorem vb_X10_goes_94 {p : Program} {l : Launch} {e : Env} {s : State} {m : MethodId} {args : Array Value} {below : List Frame} {meth : Method} {c : Code} {g : GE} {U : MU} {W : (Nat → Int64) × (Nat → UInt64)} {Q : Int32 → MU → Prop} (C : zCx p l s m args meth c g RX10 cX10_goes 5) (hr : meth.sig.returnType = (Option.some Jvm.ClassFile.FieldType.int)) {L58 : Int32 → Int32 → Int32 → Int32 → MU → Prop} (hL58 : ∀ (x1 : Int32) (x2 : Int32) (x3 : Int32) (x4 : Int32) (u : MU), L58 x1 x2 x3 x4 u → WM p l e rm_X10_goes s m args below meth c g 5 0 0 (MQ below (zQi g (zPm U W Q)) args s 0 0 (zA g)) 58 [(0, .ref (g.2.2.1 117)), (1, .int x1), (2, .int x2), (3, .int x3), (4, .int x4)] [] (U, u, W)) (x1 : Int32) (x2 : Int32) (x4 : Int32) (s0 : Int32) (u : MU) (h : wb_X10_goes_94 L58  Q x1 x2 x4 s0 u) : WM p l e rm_X10_goes s m args below meth c g 5 0 0 (MQ below (zQi g (zPm U W Q)) args s 0 0 (zA g)) 94 [(0, .ref (g.2.2.1 117)), (1, .int x1), (2, .int x2), (4, .int x4)] [.int s0] (U, u, W) := by
  unfold wb_X10_goes_94 at h
  refine zm_iconst (v := 0) C dX10_goes_94 (by decide) ?_
  exact zm_sub [0, 1, 2, 3] rfl (vb_X10_goes_95 C hr hL58 _ _ _ _ _ _ h)
def wl_X10_goes_58 (Q : Int32 → MU → Prop) : Nat → Int32 → Int32 → Int32 → Int32 → MU → Prop
  | 0, _, _, _, _, _ => False
  | n + 1, x1, x2, x3, x4, u => (((u 117 25) ≤ x4) → ((¬ x3 = 0) → vp_in (5 : Int32) 119 ∧ (((¬ (u 118 ((5 : Int32)).toNatClampNeg) = (40 : Int32)) → w_X10_makes x1 x2 u (fun u_6 => vp_in (4 : Int32) 119 ∧ (w_X10_finds ((u_6 118 ((4 : Int32)).toNatClampNeg) - (1 : Int32)) u_6 (fun u_9 => Q (u_9 117 25) u_9)))) ∧ (((u 118 ((5 : Int32)).toNatClampNeg) = (40 : Int32)) → w_X10_refuses (2 : Int32) (40 : Int32) u (fun r_10 u_11 => Q r_10 u_11)))) ∧ ((x3 = 0) → w_X10_refuses (10 : Int32) (u 117 25) u (fun r_12 u_13 => Q r_12 u_13))) ∧ ((¬ (u 117 25) ≤ x4) → vp_in x4 24 ∧ (((¬ (u 129 (x4).toNatClampNeg) = x1) → wb_X10_goes_94 (fun x1' x2' x3' x4' u' => wl_X10_goes_58  Q n x1' x2' x3' x4' u')  Q x1 x2 x4 x3 u) ∧ (((u 129 (x4).toNatClampNeg) = x1) → vp_in x4 24 ∧ (((¬ (u 130 (x4).toNatClampNeg) = x2) → wb_X10_goes_94 (fun x1' x2' x3' x4' u' => wl_X10_goes_58  Q n x1' x2' x3' x4' u')  Q x1 x2 x4 x3 u) ∧ (((u 130 (x4).toNatClampNeg) = x2) → wb_X10_goes_95 (fun x1' x2' x3' x4' u' => wl_X10_goes_58  Q n x1' x2' x3' x4' u')  Q x1 x2 x4 (1 : Int32) x3 u)))))
set_option maxHeartbeats 4000000 in
set_option maxRecDepth 100000 in
theorem vl_X10_goes_58 {p : Program} {l : Launch} {e : Env} {s : State} {m : MethodId} {args : Array Value} {below : List Frame} {meth : Method} {c : Code} {g : GE} {U : MU} {W : (Nat → Int64) × (Nat → UInt64)} {Q : Int32 → MU → Prop} (C : zCx p l s m args meth c g RX10 cX10_goes 5) (hr : meth.sig.returnType = (Option.some Jvm.ClassFile.FieldType.int)) : ∀ (n : Nat) (x1 : Int32) (x2 : Int32) (x3 : Int32) (x4 : Int32) (u : MU) , wl_X10_goes_58   Q n x1 x2 x3 x4 u → WM p l e rm_X10_goes s m args below meth c g 5 0 0 (MQ below (zQi g (zPm U W Q)) args s 0 0 (zA g)) 58 [(0, .ref (g.2.2.1 117)), (1, .int x1), (2, .int x2), (3, .int x3), (4, .int x4)] [] (U, u, W) := by
  intro n
  induction n with
  | zero => intro _ _ _ _ _ h; exact h.elim
  | succ n ih =>
    intro x1 x2 x3 x4 u h
    unfold wl_X10_goes_58 at h
    refine zm_iload C dX10_goes_58 4 rfl ?_
    refine zm_aload_n C dX10_goes_60 rfl 0 rfl ?_
    refine gf_RX10_103 C kd_117 dX10_goes_61 ?_
    refine zm_icmp_ge (tgt := 103) C dX10_goes_64 (by decide) (fun hc_1 => ?_) (fun hc_1 => ?_)
    · have h := h.1 hc_1
      refine zm_iload_n C dX10_goes_103 rfl 3 rfl ?_
      refine zm_if_ne (tgt := 118) C dX10_goes_104 (by decide) (fun hc_2 => ?_) (fun hc_2 => ?_)
      · have h := h.1 hc_2
        refine zm_aload_n C dX10_goes_118 rfl 0 rfl ?_
        refine gf_RX10_9 (k1 := 118) C kd_117 rfl dX10_goes_119 ?_
        refine zm_iconst (v := 5) C dX10_goes_122 (by decide) ?_
        obtain ⟨hg_3, h⟩ := h
        refine zq_ld_m C kd_118 ln_118 hg_3 dX10_goes_123 ?_
        refine zm_bipush (v := 40) C dX10_goes_124 (by decide) ?_
        refine zm_icmp_ne (tgt := 137) C dX10_goes_126 (by decide) (fun hc_4 => ?_) (fun hc_4 => ?_)
        · have h := h.1 hc_4
          refine zm_aload_n C dX10_goes_137 rfl 0 rfl ?_
          refine zm_iload_n C dX10_goes_138 rfl 1 rfl ?_
          refine zm_iload_n C dX10_goes_139 rfl 2 rfl ?_
          refine zm_cv (zr_V (As := [.int x1, .int x2]) (rest := []) C (c_X10_makes l g U u W x1 x2 h) wd_1308 wd_1310 wp_50 wd_11 wd_1311 hy_X10_makes rfl rfl ⟨by decide, by decide⟩ ⟨by decide, by decide⟩ (ci := 10) (by decide) (zCell_k kd_117) rfl rfl rfl rfl (Nat.le_of_ble_eq_true rfl) dX10_goes_140) (fun M1 hq => ?_)
          obtain ⟨u_6, rfl, h⟩ := hq
          refine zm_aload_n C dX10_goes_143 rfl 0 rfl ?_
          refine zm_aload_n C dX10_goes_144 rfl 0 rfl ?_
          refine gf_RX10_9 (k1 := 118) C kd_117 rfl dX10_goes_145 ?_
          refine zm_iconst (v := 4) C dX10_goes_148 (by decide) ?_
          obtain ⟨hg_7, h⟩ := h
          refine zq_ld_m C kd_118 ln_118 hg_7 dX10_goes_149 ?_
          refine zm_iconst (v := 1) C dX10_goes_150 (by decide) ?_
          refine zm_isub C dX10_goes_151 ?_
          refine zm_cv (zr_V (As := [.int ((u_6 118 ((4 : Int32)).toNatClampNeg) - (1 : Int32))]) (rest := []) C (c_X10_finds l g U u_6 W ((u_6 118 ((4 : Int32)).toNatClampNeg) - (1 : Int32)) h) wd_1289 wd_1291 wp_47 wd_11 wd_1292 hy_X10_finds rfl rfl ⟨by decide, by decide⟩ ⟨by decide, by decide⟩ (ci := 10) (by decide) (zCell_k kd_117) rfl rfl rfl rfl (Nat.le_of_ble_eq_true rfl) dX10_goes_152) (fun M1 hq => ?_)
          obtain ⟨u_9, rfl, h⟩ := hq
          refine zm_aload_n C dX10_goes_155 rfl 0 rfl ?_
          refine gf_RX10_103 C kd_117 dX10_goes_156 ?_
          exact zm_iret C hr dX10_goes_159 ⟨_, rfl, h⟩
        · have h := h.2 hc_4
          refine zm_aload_n C dX10_goes_129 rfl 0 rfl ?_
          refine zm_iconst (v := 2) C dX10_goes_130 (by decide) ?_
          refine zm_bipush (v := 40) C dX10_goes_131 (by decide) ?_
          refine zm_ci (zr_V (As := [.int (2 : Int32), .int (40 : Int32)]) (rest := []) C (c_X10_refuses l g U u W (2 : Int32) (40 : Int32) h) wd_1192 wd_1194 wp_31 wd_11 wd_1195 hy_X10_refuses rfl rfl ⟨by decide, by decide⟩ ⟨by decide, by decide⟩ (ci := 10) (by decide) (zCell_k kd_117) rfl rfl rfl rfl (Nat.le_of_ble_eq_true rfl) dX10_goes_133) (fun r_10 M1 hq => ?_)
          obtain ⟨u_11, rfl, h⟩ := hq
          exact zm_iret C hr dX10_goes_136 ⟨_, rfl, h⟩
      · have h := h.2 hc_2
        refine zm_aload_n C dX10_goes_107 rfl 0 rfl ?_
        refine zm_bipush (v := 10) C dX10_goes_108 (by decide) ?_
        refine zm_aload_n C dX10_goes_110 rfl 0 rfl ?_
        refine gf_RX10_103 C kd_117 dX10_goes_111 ?_
        refine zm_ci (zr_V (As := [.int (10 : Int32), .int (u 117 25)]) (rest := []) C (c_X10_refuses l g U u W (10 : Int32) (u 117 25) h) wd_1192 wd_1194 wp_31 wd_11 wd_1195 hy_X10_refuses rfl rfl ⟨by decide, by decide⟩ ⟨by decide, by decide⟩ (ci := 10) (by decide) (zCell_k kd_117) rfl rfl rfl rfl (Nat.le_of_ble_eq_true rfl) dX10_goes_114) (fun r_12 M1 hq => ?_)
        obtain ⟨u_13, rfl, h⟩ := hq
        exact zm_iret C hr dX10_goes_117 ⟨_, rfl, h⟩
    · have h := h.2 hc_1
      refine zm_iload_n C dX10_goes_67 rfl 3 rfl ?_
      refine zm_aload_n C dX10_goes_68 rfl 0 rfl ?_
      refine gf_RX10_48 (k1 := 129) C kd_117 rfl dX10_goes_69 ?_
      refine zm_iload C dX10_goes_72 4 rfl ?_
      obtain ⟨hg_14, h⟩ := h
      refine zq_ld_m C kd_129 ln_129 hg_14 dX10_goes_74 ?_
      refine zm_iload_n C dX10_goes_75 rfl 1 rfl ?_
      refine zm_icmp_ne (tgt := 94) C dX10_goes_76 (by decide) (fun hc_15 => ?_) (fun hc_15 => ?_)
      · have h := h.1 hc_15
        exact zm_sub [0, 1, 2, 4] rfl (vb_X10_goes_94 C hr ih _ _ _ _ _ h)
      · have h := h.2 hc_15
        refine zm_aload_n C dX10_goes_79 rfl 0 rfl ?_
        refine gf_RX10_51 (k1 := 130) C kd_117 rfl dX10_goes_80 ?_
        refine zm_iload C dX10_goes_83 4 rfl ?_
        obtain ⟨hg_16, h⟩ := h
        refine zq_ld_m C kd_130 ln_130 hg_16 dX10_goes_85 ?_
        refine zm_iload_n C dX10_goes_86 rfl 2 rfl ?_
        refine zm_icmp_ne (tgt := 94) C dX10_goes_87 (by decide) (fun hc_17 => ?_) (fun hc_17 => ?_)
        · have h := h.1 hc_17
          exact zm_sub [0, 1, 2, 4] rfl (vb_X10_goes_94 C hr ih _ _ _ _ _ h)
        · have h := h.2 hc_17
          refine zm_iconst (v := 1) C dX10_goes_90 (by decide) ?_
          refine zm_goto (tgt := 95) C dX10_goes_91 (by decide) ?_
          exact zm_sub [0, 1, 2, 4] rfl (vb_X10_goes_95 C hr ih _ _ _ _ _ _ h)
def w_X10_goes (x1 : Int32) (x2 : Int32) (u : MU) (Q : Int32 → MU → Prop) : Prop := vp_in (4 : Int32) 119 ∧ (((¬ (u 118 ((4 : Int32)).toNatClampNeg) = 0) → w_X10_nears  u (fun u_4 => vp_in (4 : Int32) 119 ∧ (w_X10_finds ((u_4 118 ((4 : Int32)).toNatClampNeg) - (1 : Int32)) u_4 (fun u_7 => ((¬ (u_7 117 25) = 0) → ∃ nn, wl_X10_goes_58   Q nn x1 x2 (0 : Int32) (0 : Int32) u_7) ∧ (((u_7 117 25) = 0) → vp_in (5 : Int32) 119 ∧ (w_X10_refuses (9 : Int32) (u_7 118 ((5 : Int32)).toNatClampNeg) u_7 (fun r_10 u_11 => Q r_10 u_11))))))) ∧ (((u 118 ((4 : Int32)).toNatClampNeg) = 0) → w_X10_refuses (8 : Int32) (0 : Int32) u (fun r_12 u_13 => Q r_12 u_13)))
set_option maxHeartbeats 4000000 in
set_option maxRecDepth 100000 in
theorem c_X10_goes (l : Launch) (g : GE) (U : MU) (u : MU) (W : (Nat → Int64) × (Nat → UInt64)) (x1 : Int32) (x2 : Int32) {Q : Int32 → MU → Prop} (h : w_X10_goes x1 x2 u Q) : Met l yX10_goes (.code yX10_goes cX10_goes 5 (Option.some Jvm.ClassFile.FieldType.int) :: TB) rm_X10_goes (zPc g (U, u, W) [.ref (g.2.2.1 117), .int x1, .int x2]) (zQi g (zPm U W Q)) 0 0 (zA g) := by
  unfold w_X10_goes at h
  refine zMet (own := RX10) [(0, .ref (g.2.2.1 117)), (1, .int x1), (2, .int x2)] (by decide +kernel) rfl (Nat.le_of_ble_eq_true rfl) rfl (fun p e s m args below meth c C hr => ?_)
  refine zm_aload_n C dX10_goes_0 rfl 0 rfl ?_
  refine gf_RX10_9 (k1 := 118) C kd_117 rfl dX10_goes_1 ?_
  refine zm_iconst (v := 4) C dX10_goes_4 (by decide) ?_
  obtain ⟨hg_1, h⟩ := h
  refine zq_ld_m C kd_118 ln_118 hg_1 dX10_goes_5 ?_
  refine zm_if_ne (tgt := 17) C dX10_goes_6 (by decide) (fun hc_2 => ?_) (fun hc_2 => ?_)
  · have h := h.1 hc_2
    refine zm_aload_n C dX10_goes_17 rfl 0 rfl ?_
    refine zm_cv (zr_V (As := []) (rest := []) C (c_X10_nears l g U u W  h) wd_1285 wd_1287 wp_46 wd_11 wd_1288 hy_X10_nears rfl rfl ⟨by decide, by decide⟩ ⟨by decide, by decide⟩ (ci := 10) (by decide) (zCell_k kd_117) rfl rfl rfl rfl (Nat.le_of_ble_eq_true rfl) dX10_goes_18) (fun M1 hq => ?_)
    obtain ⟨u_4, rfl, h⟩ := hq
    refine zm_aload_n C dX10_goes_21 rfl 0 rfl ?_
    refine zm_aload_n C dX10_goes_22 rfl 0 rfl ?_
    refine gf_RX10_9 (k1 := 118) C kd_117 rfl dX10_goes_23 ?_
    refine zm_iconst (v := 4) C dX10_goes_26 (by decide) ?_
    obtain ⟨hg_5, h⟩ := h
    refine zq_ld_m C kd_118 ln_118 hg_5 dX10_goes_27 ?_
    refine zm_iconst (v := 1) C dX10_goes_28 (by decide) ?_
    refine zm_isub C dX10_goes_29 ?_
    refine zm_cv (zr_V (As := [.int ((u_4 118 ((4 : Int32)).toNatClampNeg) - (1 : Int32))]) (rest := []) C (c_X10_finds l g U u_4 W ((u_4 118 ((4 : Int32)).toNatClampNeg) - (1 : Int32)) h) wd_1289 wd_1291 wp_47 wd_11 wd_1292 hy_X10_finds rfl rfl ⟨by decide, by decide⟩ ⟨by decide, by decide⟩ (ci := 10) (by decide) (zCell_k kd_117) rfl rfl rfl rfl (Nat.le_of_ble_eq_true rfl) dX10_goes_30) (fun M1 hq => ?_)
    obtain ⟨u_7, rfl, h⟩ := hq
    refine zm_aload_n C dX10_goes_33 rfl 0 rfl ?_
    refine gf_RX10_103 C kd_117 dX10_goes_34 ?_
    refine zm_if_ne (tgt := 53) C dX10_goes_37 (by decide) (fun hc_8 => ?_) (fun hc_8 => ?_)
    · have h := h.1 hc_8
      refine zm_iconst (v := 0) C dX10_goes_53 (by decide) ?_
      refine zm_istore_n (lv' := [(3, .int (0 : Int32)), (0, .ref (g.2.2.1 117)), (1, .int x1), (2, .int x2)]) C dX10_goes_54 rfl (by decide) rfl ?_
      refine zm_iconst (v := 0) C dX10_goes_55 (by decide) ?_
      refine zm_istore (lv' := [(4, .int (0 : Int32)), (3, .int (0 : Int32)), (0, .ref (g.2.2.1 117)), (1, .int x1), (2, .int x2)]) C dX10_goes_56 (by decide) rfl ?_
      obtain ⟨nn, h⟩ := h
      exact zm_sub [2, 3, 4, 1, 0] rfl (vl_X10_goes_58 C hr  nn _ _ _ _ _ h)
    · have h := h.2 hc_8
      refine zm_aload_n C dX10_goes_40 rfl 0 rfl ?_
      refine zm_bipush (v := 9) C dX10_goes_41 (by decide) ?_
      refine zm_aload_n C dX10_goes_43 rfl 0 rfl ?_
      refine gf_RX10_9 (k1 := 118) C kd_117 rfl dX10_goes_44 ?_
      refine zm_iconst (v := 5) C dX10_goes_47 (by decide) ?_
      obtain ⟨hg_9, h⟩ := h
      refine zq_ld_m C kd_118 ln_118 hg_9 dX10_goes_48 ?_
      refine zm_ci (zr_V (As := [.int (9 : Int32), .int (u_7 118 ((5 : Int32)).toNatClampNeg)]) (rest := []) C (c_X10_refuses l g U u_7 W (9 : Int32) (u_7 118 ((5 : Int32)).toNatClampNeg) h) wd_1192 wd_1194 wp_31 wd_11 wd_1195 hy_X10_refuses rfl rfl ⟨by decide, by decide⟩ ⟨by decide, by decide⟩ (ci := 10) (by decide) (zCell_k kd_117) rfl rfl rfl rfl (Nat.le_of_ble_eq_true rfl) dX10_goes_49) (fun r_10 M1 hq => ?_)
      obtain ⟨u_11, rfl, h⟩ := hq
      exact zm_iret C hr dX10_goes_52 ⟨_, rfl, h⟩
  · have h := h.2 hc_2
    refine zm_aload_n C dX10_goes_9 rfl 0 rfl ?_
    refine zm_bipush (v := 8) C dX10_goes_10 (by decide) ?_
    refine zm_iconst (v := 0) C dX10_goes_12 (by decide) ?_
    refine zm_ci (zr_V (As := [.int (8 : Int32), .int (0 : Int32)]) (rest := []) C (c_X10_refuses l g U u W (8 : Int32) (0 : Int32) h) wd_1192 wd_1194 wp_31 wd_11 wd_1195 hy_X10_refuses rfl rfl ⟨by decide, by decide⟩ ⟨by decide, by decide⟩ (ci := 10) (by decide) (zCell_k kd_117) rfl rfl rfl rfl (Nat.le_of_ble_eq_true rfl) dX10_goes_13) (fun r_12 M1 hq => ?_)
    obtain ⟨u_13, rfl, h⟩ := hq
    exact zm_iret C hr dX10_goes_16 ⟨_, rfl, h⟩
abbrev rm_X10_move : Room := { frames := 4, cells := 0, slots := 0, locals := 94 }
def w_X10_move (x1 : Int32) (x2 : Int32) (u : MU) (Q : Int32 → MU → Prop) : Prop := w_X10_tries  u (fun u_2 => w_X10_goes x1 x2 u_2 (fun r_3 u_4 => w_X10_keeps r_3 u_4 (fun r_5 u_6 => Q r_5 u_6)))
set_option maxHeartbeats 4000000 in
set_option maxRecDepth 100000 in
theorem c_X10_move (l : Launch) (g : GE) (U : MU) (u : MU) (W : (Nat → Int64) × (Nat → UInt64)) (x1 : Int32) (x2 : Int32) {Q : Int32 → MU → Prop} (h : w_X10_move x1 x2 u Q) : Met l yX10_move (.code yX10_move cX10_move 3 (Option.some Jvm.ClassFile.FieldType.int) :: TB) rm_X10_move (zPc g (U, u, W) [.ref (g.2.2.1 117), .int x1, .int x2]) (zQi g (zPm U W Q)) 0 0 (zA g) := by
  unfold w_X10_move at h
  refine zMet (own := RX10) [(0, .ref (g.2.2.1 117)), (1, .int x1), (2, .int x2)] (by decide +kernel) rfl (Nat.le_of_ble_eq_true rfl) rfl (fun p e s m args below meth c C hr => ?_)
  refine zm_aload_n C dX10_move_0 rfl 0 rfl ?_
  refine zm_cv (zr_V (As := []) (rest := []) C (c_X10_tries l g U u W  h) wd_1184 wd_1186 wp_29 wd_11 wd_1187 hy_X10_tries rfl rfl ⟨by decide, by decide⟩ ⟨by decide, by decide⟩ (ci := 10) (by decide) (zCell_k kd_117) rfl rfl rfl rfl (Nat.le_of_ble_eq_true rfl) dX10_move_1) (fun M1 hq => ?_)
  obtain ⟨u_2, rfl, h⟩ := hq
  refine zm_aload_n C dX10_move_4 rfl 0 rfl ?_
  refine zm_aload_n C dX10_move_5 rfl 0 rfl ?_
  refine zm_iload_n C dX10_move_6 rfl 1 rfl ?_
  refine zm_iload_n C dX10_move_7 rfl 2 rfl ?_
  refine zm_ci (zr_V (As := [.int x1, .int x2]) (rest := [.ref (g.2.2.1 117)]) C (c_X10_goes l g U u_2 W x1 x2 h) wd_1304 wd_1306 wp_49 wd_11 wd_1307 hy_X10_goes rfl rfl ⟨by decide, by decide⟩ ⟨by decide, by decide⟩ (ci := 10) (by decide) (zCell_k kd_117) rfl rfl rfl rfl (Nat.le_of_ble_eq_true rfl) dX10_move_8) (fun r_3 M1 hq => ?_)
  obtain ⟨u_4, rfl, h⟩ := hq
  refine zm_ci (zr_V (As := [.int r_3]) (rest := []) C (c_X10_keeps l g U u_4 W r_3 h) wd_1200 wd_1202 wp_33 wd_11 wd_1203 hy_X10_keeps rfl rfl ⟨by decide, by decide⟩ ⟨by decide, by decide⟩ (ci := 10) (by decide) (zCell_k kd_117) rfl rfl rfl rfl (Nat.le_of_ble_eq_true rfl) dX10_move_11) (fun r_5 M1 hq => ?_)
  obtain ⟨u_6, rfl, h⟩ := hq
  exact zm_iret C hr dX10_move_14 ⟨_, rfl, h⟩
abbrev rm_X10_plays : Room := { frames := 5, cells := 0, slots := 0, locals := 115 }
def wl_X10_plays_93 (Q : Int32 → MU → Prop) : Nat → Int32 → Int32 → Int32 → MU → Prop
  | 0, _, _, _, _ => False
  | n + 1, x1, x2, x3, u => ((x2 < 0) → Q x3 u) ∧ ((¬ x2 < 0) → ((x1 ≤ x3) → Q x3 u) ∧ ((¬ x1 ≤ x3) → vp_in (5 : Int32) 119 ∧ ((((40 : Int32) ≤ (u 118 ((5 : Int32)).toNatClampNeg)) → Q x3 u) ∧ ((¬ (40 : Int32) ≤ (u 118 ((5 : Int32)).toNatClampNeg)) → vp_in x2 24 ∧ (vp_in x2 24 ∧ (w_X10_makes (u 129 (x2).toNatClampNeg) (u 130 (x2).toNatClampNeg) u (fun u_8 => ∀ x3_9, x3_9 = x3 + (1 : Int32) → vp_in (4 : Int32) 119 ∧ (w_X10_bestPlace ((u_8 118 ((4 : Int32)).toNatClampNeg) - (1 : Int32)) u_8 (fun r_11 u_12 => wl_X10_plays_93   Q n x1 r_11 x3_9 u_12)))))))))
set_option maxHeartbeats 4000000 in
set_option maxRecDepth 100000 in
theorem vl_X10_plays_93 {p : Program} {l : Launch} {e : Env} {s : State} {m : MethodId} {args : Array Value} {below : List Frame} {meth : Method} {c : Code} {g : GE} {U : MU} {W : (Nat → Int64) × (Nat → UInt64)} {Q : Int32 → MU → Prop} (C : zCx p l s m args meth c g RX10 cX10_plays 4) (hr : meth.sig.returnType = (Option.some Jvm.ClassFile.FieldType.int)) : ∀ (n : Nat) (x1 : Int32) (x2 : Int32) (x3 : Int32) (u : MU) , wl_X10_plays_93   Q n x1 x2 x3 u → WM p l e rm_X10_plays s m args below meth c g 4 0 0 (MQ below (zQi g (zPm U W Q)) args s 0 0 (zA g)) 93 [(0, .ref (g.2.2.1 117)), (1, .int x1), (2, .int x2), (3, .int x3)] [] (U, u, W) := by
  intro n
  induction n with
  | zero => intro _ _ _ _ h; exact h.elim
  | succ n ih =>
    intro x1 x2 x3 u h
    unfold wl_X10_plays_93 at h
    refine zm_iload_n C dX10_plays_93 rfl 2 rfl ?_
    refine zm_if_lt (tgt := 148) C dX10_plays_94 (by decide) (fun hc_1 => ?_) (fun hc_1 => ?_)
    · have h := h.1 hc_1
      refine zm_iload_n C dX10_plays_148 rfl 3 rfl ?_
      exact zm_iret C hr dX10_plays_149 ⟨_, rfl, h⟩
    · have h := h.2 hc_1
      refine zm_iload_n C dX10_plays_97 rfl 3 rfl ?_
      refine zm_iload_n C dX10_plays_98 rfl 1 rfl ?_
      refine zm_icmp_ge (tgt := 148) C dX10_plays_99 (by decide) (fun hc_2 => ?_) (fun hc_2 => ?_)
      · have h := h.1 hc_2
        refine zm_iload_n C dX10_plays_148 rfl 3 rfl ?_
        exact zm_iret C hr dX10_plays_149 ⟨_, rfl, h⟩
      · have h := h.2 hc_2
        refine zm_aload_n C dX10_plays_102 rfl 0 rfl ?_
        refine gf_RX10_9 (k1 := 118) C kd_117 rfl dX10_plays_103 ?_
        refine zm_iconst (v := 5) C dX10_plays_106 (by decide) ?_
        obtain ⟨hg_3, h⟩ := h
        refine zq_ld_m C kd_118 ln_118 hg_3 dX10_plays_107 ?_
        refine zm_bipush (v := 40) C dX10_plays_108 (by decide) ?_
        refine zm_icmp_ge (tgt := 148) C dX10_plays_110 (by decide) (fun hc_4 => ?_) (fun hc_4 => ?_)
        · have h := h.1 hc_4
          refine zm_iload_n C dX10_plays_148 rfl 3 rfl ?_
          exact zm_iret C hr dX10_plays_149 ⟨_, rfl, h⟩
        · have h := h.2 hc_4
          refine zm_aload_n C dX10_plays_113 rfl 0 rfl ?_
          refine zm_aload_n C dX10_plays_114 rfl 0 rfl ?_
          refine gf_RX10_48 (k1 := 129) C kd_117 rfl dX10_plays_115 ?_
          refine zm_iload_n C dX10_plays_118 rfl 2 rfl ?_
          obtain ⟨hg_5, h⟩ := h
          refine zq_ld_m C kd_129 ln_129 hg_5 dX10_plays_119 ?_
          refine zm_aload_n C dX10_plays_120 rfl 0 rfl ?_
          refine gf_RX10_51 (k1 := 130) C kd_117 rfl dX10_plays_121 ?_
          refine zm_iload_n C dX10_plays_124 rfl 2 rfl ?_
          obtain ⟨hg_6, h⟩ := h
          refine zq_ld_m C kd_130 ln_130 hg_6 dX10_plays_125 ?_
          refine zm_cv (zr_V (As := [.int (u 129 (x2).toNatClampNeg), .int (u 130 (x2).toNatClampNeg)]) (rest := []) C (c_X10_makes l g U u W (u 129 (x2).toNatClampNeg) (u 130 (x2).toNatClampNeg) h) wd_1308 wd_1310 wp_50 wd_11 wd_1311 hy_X10_makes rfl rfl ⟨by decide, by decide⟩ ⟨by decide, by decide⟩ (ci := 10) (by decide) (zCell_k kd_117) rfl rfl rfl rfl (Nat.le_of_ble_eq_true rfl) dX10_plays_126) (fun M1 hq => ?_)
          obtain ⟨u_8, rfl, h⟩ := hq
          obtain ⟨x3_9, hx3_9⟩ : ∃ z, z = x3 + (1 : Int32) := ⟨_, rfl⟩
          have h := h x3_9 hx3_9
          refine zm_iinc (v := x3_9) (lv' := [(3, .int x3_9), (0, .ref (g.2.2.1 117)), (1, .int x1), (2, .int x2)]) C dX10_plays_129 3 rfl (by rw [hx3_9]; rfl) (by decide) rfl ?_
          refine zm_aload_n C dX10_plays_132 rfl 1 rfl ?_
          refine zm_aload_n C dX10_plays_133 rfl 1 rfl ?_
          refine gf_RX10_9 (k1 := 118) C kd_117 rfl dX10_plays_134 ?_
          refine zm_iconst (v := 4) C dX10_plays_137 (by decide) ?_
          obtain ⟨hg_10, h⟩ := h
          refine zq_ld_m C kd_118 ln_118 hg_10 dX10_plays_138 ?_
          refine zm_iconst (v := 1) C dX10_plays_139 (by decide) ?_
          refine zm_isub C dX10_plays_140 ?_
          refine zm_ci (zr_V (As := [.int ((u_8 118 ((4 : Int32)).toNatClampNeg) - (1 : Int32))]) (rest := []) C (c_X10_bestPlace l g U u_8 W ((u_8 118 ((4 : Int32)).toNatClampNeg) - (1 : Int32)) h) wd_1332 wd_1334 wp_53 wd_11 wd_1335 hy_X10_bestPlace rfl rfl ⟨by decide, by decide⟩ ⟨by decide, by decide⟩ (ci := 10) (by decide) (zCell_k kd_117) rfl rfl rfl rfl (Nat.le_of_ble_eq_true rfl) dX10_plays_141) (fun r_11 M1 hq => ?_)
          obtain ⟨u_12, rfl, h⟩ := hq
          refine zm_istore_n (lv' := [(2, .int r_11), (3, .int x3_9), (0, .ref (g.2.2.1 117)), (1, .int x1)]) C dX10_plays_144 rfl (by decide) rfl ?_
          refine zm_goto (tgt := 93) C dX10_plays_145 (by decide) ?_
          exact zm_sub [2, 3, 0, 1] rfl (ih _ _ _ _ h)
def w_X10_plays (x1 : Int32) (u : MU) (Q : Int32 → MU → Prop) : Prop := w_X10_in x1 (1 : Int32) (40 : Int32) (fun r_1 => ((¬ r_1 = 0) → vp_in (4 : Int32) 119 ∧ (((¬ (u 118 ((4 : Int32)).toNatClampNeg) = 0) → w_X10_nears  u (fun u_7 => w_X10_looks  u_7 (fun u_9 => vp_in (4 : Int32) 119 ∧ (w_X10_bestPlace ((u_9 118 ((4 : Int32)).toNatClampNeg) - (1 : Int32)) u_9 (fun r_11 u_12 => ((0 ≤ r_11) → vp_in (5 : Int32) 119 ∧ (((¬ (u_12 118 ((5 : Int32)).toNatClampNeg) = (40 : Int32)) → ∃ nn, wl_X10_plays_93   Q nn x1 r_11 (0 : Int32) u_12) ∧ (((u_12 118 ((5 : Int32)).toNatClampNeg) = (40 : Int32)) → w_X10_refuses (2 : Int32) (40 : Int32) u_12 (fun r_16 u_17 => Q r_16 u_17)))) ∧ ((¬ 0 ≤ r_11) → vp_in (5 : Int32) 119 ∧ (w_X10_refuses (9 : Int32) (u_12 118 ((5 : Int32)).toNatClampNeg) u_12 (fun r_19 u_20 => Q r_19 u_20)))))))) ∧ (((u 118 ((4 : Int32)).toNatClampNeg) = 0) → w_X10_refuses (8 : Int32) (0 : Int32) u (fun r_21 u_22 => Q r_21 u_22)))) ∧ ((r_1 = 0) → w_X10_refuses (1 : Int32) (0 : Int32) u (fun r_23 u_24 => Q r_23 u_24)))
set_option maxHeartbeats 4000000 in
set_option maxRecDepth 100000 in
theorem c_X10_plays (l : Launch) (g : GE) (U : MU) (u : MU) (W : (Nat → Int64) × (Nat → UInt64)) (x1 : Int32) {Q : Int32 → MU → Prop} (h : w_X10_plays x1 u Q) : Met l yX10_plays (.code yX10_plays cX10_plays 4 (Option.some Jvm.ClassFile.FieldType.int) :: TB) rm_X10_plays (zPc g (U, u, W) [.ref (g.2.2.1 117), .int x1]) (zQi g (zPm U W Q)) 0 0 (zA g) := by
  unfold w_X10_plays at h
  refine zMet (own := RX10) [(0, .ref (g.2.2.1 117)), (1, .int x1)] (by decide +kernel) rfl (Nat.le_of_ble_eq_true rfl) rfl (fun p e s m args below meth c C hr => ?_)
  refine zm_iload_n C dX10_plays_0 rfl 1 rfl ?_
  refine zm_iconst (v := 1) C dX10_plays_1 (by decide) ?_
  refine zm_bipush (v := 40) C dX10_plays_2 (by decide) ?_
  refine zm_ci (zr_S (As := [.int x1, .int (1 : Int32), .int (40 : Int32)]) (rest := []) C (c_X10_in l g (U, u, W) x1 (1 : Int32) (40 : Int32) h) wd_1224 wd_1225 wd_11 wd_1226 hy_X10_in rfl rfl ⟨by decide, by decide⟩ ⟨by decide, by decide⟩ rfl rfl (Nat.le_of_ble_eq_true rfl) dX10_plays_4) (fun r_1 M1 hq => ?_)
  obtain ⟨rfl, h⟩ := hq
  refine zm_if_ne (tgt := 17) C dX10_plays_7 (by decide) (fun hc_3 => ?_) (fun hc_3 => ?_)
  · have h := h.1 hc_3
    refine zm_aload_n C dX10_plays_17 rfl 0 rfl ?_
    refine gf_RX10_9 (k1 := 118) C kd_117 rfl dX10_plays_18 ?_
    refine zm_iconst (v := 4) C dX10_plays_21 (by decide) ?_
    obtain ⟨hg_4, h⟩ := h
    refine zq_ld_m C kd_118 ln_118 hg_4 dX10_plays_22 ?_
    refine zm_if_ne (tgt := 34) C dX10_plays_23 (by decide) (fun hc_5 => ?_) (fun hc_5 => ?_)
    · have h := h.1 hc_5
      refine zm_aload_n C dX10_plays_34 rfl 0 rfl ?_
      refine zm_cv (zr_V (As := []) (rest := []) C (c_X10_nears l g U u W  h) wd_1285 wd_1287 wp_46 wd_11 wd_1288 hy_X10_nears rfl rfl ⟨by decide, by decide⟩ ⟨by decide, by decide⟩ (ci := 10) (by decide) (zCell_k kd_117) rfl rfl rfl rfl (Nat.le_of_ble_eq_true rfl) dX10_plays_35) (fun M1 hq => ?_)
      obtain ⟨u_7, rfl, h⟩ := hq
      refine zm_aload_n C dX10_plays_38 rfl 0 rfl ?_
      refine zm_cv (zr_V (As := []) (rest := []) C (c_X10_looks l g U u_7 W  h) wd_1328 wd_1330 wp_52 wd_11 wd_1331 hy_X10_looks rfl rfl ⟨by decide, by decide⟩ ⟨by decide, by decide⟩ (ci := 10) (by decide) (zCell_k kd_117) rfl rfl rfl rfl (Nat.le_of_ble_eq_true rfl) dX10_plays_39) (fun M1 hq => ?_)
      obtain ⟨u_9, rfl, h⟩ := hq
      refine zm_aload_n C dX10_plays_42 rfl 0 rfl ?_
      refine zm_aload_n C dX10_plays_43 rfl 0 rfl ?_
      refine gf_RX10_9 (k1 := 118) C kd_117 rfl dX10_plays_44 ?_
      refine zm_iconst (v := 4) C dX10_plays_47 (by decide) ?_
      obtain ⟨hg_10, h⟩ := h
      refine zq_ld_m C kd_118 ln_118 hg_10 dX10_plays_48 ?_
      refine zm_iconst (v := 1) C dX10_plays_49 (by decide) ?_
      refine zm_isub C dX10_plays_50 ?_
      refine zm_ci (zr_V (As := [.int ((u_9 118 ((4 : Int32)).toNatClampNeg) - (1 : Int32))]) (rest := []) C (c_X10_bestPlace l g U u_9 W ((u_9 118 ((4 : Int32)).toNatClampNeg) - (1 : Int32)) h) wd_1332 wd_1334 wp_53 wd_11 wd_1335 hy_X10_bestPlace rfl rfl ⟨by decide, by decide⟩ ⟨by decide, by decide⟩ (ci := 10) (by decide) (zCell_k kd_117) rfl rfl rfl rfl (Nat.le_of_ble_eq_true rfl) dX10_plays_51) (fun r_11 M1 hq => ?_)
      obtain ⟨u_12, rfl, h⟩ := hq
      refine zm_istore_n (lv' := [(2, .int r_11), (0, .ref (g.2.2.1 117)), (1, .int x1)]) C dX10_plays_54 rfl (by decide) rfl ?_
      refine zm_iload_n C dX10_plays_55 rfl 0 rfl ?_
      refine zm_if_ge (tgt := 72) C dX10_plays_56 (by decide) (fun hc_13 => ?_) (fun hc_13 => ?_)
      · have h := h.1 hc_13
        refine zm_aload_n C dX10_plays_72 rfl 1 rfl ?_
        refine gf_RX10_9 (k1 := 118) C kd_117 rfl dX10_plays_73 ?_
        refine zm_iconst (v := 5) C dX10_plays_76 (by decide) ?_
        obtain ⟨hg_14, h⟩ := h
        refine zq_ld_m C kd_118 ln_118 hg_14 dX10_plays_77 ?_
        refine zm_bipush (v := 40) C dX10_plays_78 (by decide) ?_
        refine zm_icmp_ne (tgt := 91) C dX10_plays_80 (by decide) (fun hc_15 => ?_) (fun hc_15 => ?_)
        · have h := h.1 hc_15
          refine zm_iconst (v := 0) C dX10_plays_91 (by decide) ?_
          refine zm_istore_n (lv' := [(3, .int (0 : Int32)), (2, .int r_11), (0, .ref (g.2.2.1 117)), (1, .int x1)]) C dX10_plays_92 rfl (by decide) rfl ?_
          obtain ⟨nn, h⟩ := h
          exact zm_sub [2, 3, 1, 0] rfl (vl_X10_plays_93 C hr  nn _ _ _ _ h)
        · have h := h.2 hc_15
          refine zm_aload_n C dX10_plays_83 rfl 1 rfl ?_
          refine zm_iconst (v := 2) C dX10_plays_84 (by decide) ?_
          refine zm_bipush (v := 40) C dX10_plays_85 (by decide) ?_
          refine zm_ci (zr_V (As := [.int (2 : Int32), .int (40 : Int32)]) (rest := []) C (c_X10_refuses l g U u_12 W (2 : Int32) (40 : Int32) h) wd_1192 wd_1194 wp_31 wd_11 wd_1195 hy_X10_refuses rfl rfl ⟨by decide, by decide⟩ ⟨by decide, by decide⟩ (ci := 10) (by decide) (zCell_k kd_117) rfl rfl rfl rfl (Nat.le_of_ble_eq_true rfl) dX10_plays_87) (fun r_16 M1 hq => ?_)
          obtain ⟨u_17, rfl, h⟩ := hq
          exact zm_iret C hr dX10_plays_90 ⟨_, rfl, h⟩
      · have h := h.2 hc_13
        refine zm_aload_n C dX10_plays_59 rfl 1 rfl ?_
        refine zm_bipush (v := 9) C dX10_plays_60 (by decide) ?_
        refine zm_aload_n C dX10_plays_62 rfl 1 rfl ?_
        refine gf_RX10_9 (k1 := 118) C kd_117 rfl dX10_plays_63 ?_
        refine zm_iconst (v := 5) C dX10_plays_66 (by decide) ?_
        obtain ⟨hg_18, h⟩ := h
        refine zq_ld_m C kd_118 ln_118 hg_18 dX10_plays_67 ?_
        refine zm_ci (zr_V (As := [.int (9 : Int32), .int (u_12 118 ((5 : Int32)).toNatClampNeg)]) (rest := []) C (c_X10_refuses l g U u_12 W (9 : Int32) (u_12 118 ((5 : Int32)).toNatClampNeg) h) wd_1192 wd_1194 wp_31 wd_11 wd_1195 hy_X10_refuses rfl rfl ⟨by decide, by decide⟩ ⟨by decide, by decide⟩ (ci := 10) (by decide) (zCell_k kd_117) rfl rfl rfl rfl (Nat.le_of_ble_eq_true rfl) dX10_plays_68) (fun r_19 M1 hq => ?_)
        obtain ⟨u_20, rfl, h⟩ := hq
        exact zm_iret C hr dX10_plays_71 ⟨_, rfl, h⟩
    · have h := h.2 hc_5
      refine zm_aload_n C dX10_plays_26 rfl 0 rfl ?_
      refine zm_bipush (v := 8) C dX10_plays_27 (by decide) ?_
      refine zm_iconst (v := 0) C dX10_plays_29 (by decide) ?_
      refine zm_ci (zr_V (As := [.int (8 : Int32), .int (0 : Int32)]) (rest := []) C (c_X10_refuses l g U u W (8 : Int32) (0 : Int32) h) wd_1192 wd_1194 wp_31 wd_11 wd_1195 hy_X10_refuses rfl rfl ⟨by decide, by decide⟩ ⟨by decide, by decide⟩ (ci := 10) (by decide) (zCell_k kd_117) rfl rfl rfl rfl (Nat.le_of_ble_eq_true rfl) dX10_plays_30) (fun r_21 M1 hq => ?_)
      obtain ⟨u_22, rfl, h⟩ := hq
      exact zm_iret C hr dX10_plays_33 ⟨_, rfl, h⟩
  · have h := h.2 hc_3
    refine zm_aload_n C dX10_plays_10 rfl 0 rfl ?_
    refine zm_iconst (v := 1) C dX10_plays_11 (by decide) ?_
    refine zm_iconst (v := 0) C dX10_plays_12 (by decide) ?_
    refine zm_ci (zr_V (As := [.int (1 : Int32), .int (0 : Int32)]) (rest := []) C (c_X10_refuses l g U u W (1 : Int32) (0 : Int32) h) wd_1192 wd_1194 wp_31 wd_11 wd_1195 hy_X10_refuses rfl rfl ⟨by decide, by decide⟩ ⟨by decide, by decide⟩ (ci := 10) (by decide) (zCell_k kd_117) rfl rfl rfl rfl (Nat.le_of_ble_eq_true rfl) dX10_plays_13) (fun r_23 M1 hq => ?_)
    obtain ⟨u_24, rfl, h⟩ := hq
    exact zm_iret C hr dX10_plays_16 ⟨_, rfl, h⟩
abbrev rm_X10_play : Room := { frames := 6, cells := 0, slots := 0, locals := 138 }
def w_X10_play (x1 : Int32) (u : MU) (Q : Int32 → MU → Prop) : Prop := w_X10_tries  u (fun u_2 => w_X10_plays x1 u_2 (fun r_3 u_4 => w_X10_keeps r_3 u_4 (fun r_5 u_6 => Q r_5 u_6)))
set_option maxHeartbeats 4000000 in
set_option maxRecDepth 100000 in
theorem c_X10_play (l : Launch) (g : GE) (U : MU) (u : MU) (W : (Nat → Int64) × (Nat → UInt64)) (x1 : Int32) {Q : Int32 → MU → Prop} (h : w_X10_play x1 u Q) : Met l yX10_play (.code yX10_play cX10_play 2 (Option.some Jvm.ClassFile.FieldType.int) :: TB) rm_X10_play (zPc g (U, u, W) [.ref (g.2.2.1 117), .int x1]) (zQi g (zPm U W Q)) 0 0 (zA g) := by
  unfold w_X10_play at h
  refine zMet (own := RX10) [(0, .ref (g.2.2.1 117)), (1, .int x1)] (by decide +kernel) rfl (Nat.le_of_ble_eq_true rfl) rfl (fun p e s m args below meth c C hr => ?_)
  refine zm_aload_n C dX10_play_0 rfl 0 rfl ?_
  refine zm_cv (zr_V (As := []) (rest := []) C (c_X10_tries l g U u W  h) wd_1184 wd_1186 wp_29 wd_11 wd_1187 hy_X10_tries rfl rfl ⟨by decide, by decide⟩ ⟨by decide, by decide⟩ (ci := 10) (by decide) (zCell_k kd_117) rfl rfl rfl rfl (Nat.le_of_ble_eq_true rfl) dX10_play_1) (fun M1 hq => ?_)
  obtain ⟨u_2, rfl, h⟩ := hq
  refine zm_aload_n C dX10_play_4 rfl 0 rfl ?_
  refine zm_aload_n C dX10_play_5 rfl 0 rfl ?_
  refine zm_iload_n C dX10_play_6 rfl 1 rfl ?_
  refine zm_ci (zr_V (As := [.int x1]) (rest := [.ref (g.2.2.1 117)]) C (c_X10_plays l g U u_2 W x1 h) wd_1324 wd_1326 wp_51 wd_11 wd_1327 hy_X10_plays rfl rfl ⟨by decide, by decide⟩ ⟨by decide, by decide⟩ (ci := 10) (by decide) (zCell_k kd_117) rfl rfl rfl rfl (Nat.le_of_ble_eq_true rfl) dX10_play_7) (fun r_3 M1 hq => ?_)
  obtain ⟨u_4, rfl, h⟩ := hq
  refine zm_ci (zr_V (As := [.int r_3]) (rest := []) C (c_X10_keeps l g U u_4 W r_3 h) wd_1200 wd_1202 wp_33 wd_11 wd_1203 hy_X10_keeps rfl rfl ⟨by decide, by decide⟩ ⟨by decide, by decide⟩ (ci := 10) (by decide) (zCell_k kd_117) rfl rfl rfl rfl (Nat.le_of_ble_eq_true rfl) dX10_play_10) (fun r_5 M1 hq => ?_)
  obtain ⟨u_6, rfl, h⟩ := hq
  exact zm_iret C hr dX10_play_13 ⟨_, rfl, h⟩
abbrev rm_X10_takesBack : Room := { frames := 1, cells := 0, slots := 0, locals := 22 }
def w_X10_takesBack (u : MU) (Q : Int32 → MU → Prop) : Prop := vp_in (4 : Int32) 119 ∧ (((¬ (u 118 ((4 : Int32)).toNatClampNeg) = 0) → vp_in (5 : Int32) 119 ∧ (((¬ (u 118 ((5 : Int32)).toNatClampNeg) = 0) → vp_in (5 : Int32) 119 ∧ (vp_in (5 : Int32) 119 ∧ (∀ u_7, u_7 = u2 u 118 ((5 : Int32)).toNatClampNeg ((u 118 ((5 : Int32)).toNatClampNeg) - (1 : Int32)) → vp_in (5 : Int32) 119 ∧ (vp_in ((39 : Int32) + (u_7 118 ((5 : Int32)).toNatClampNeg)) 119 ∧ (vp_in (4 : Int32) 119 ∧ (∀ u_11, u_11 = u2 u_7 118 ((4 : Int32)).toNatClampNeg ((u_7 118 (((39 : Int32) + (u_7 118 ((5 : Int32)).toNatClampNeg))).toNatClampNeg) + (1 : Int32)) → vp_in (5 : Int32) 119 ∧ (Q (u_11 118 ((5 : Int32)).toNatClampNeg) u_11))))))) ∧ (((u 118 ((5 : Int32)).toNatClampNeg) = 0) → w_X10_refuses (11 : Int32) (0 : Int32) u (fun r_13 u_14 => Q r_13 u_14)))) ∧ (((u 118 ((4 : Int32)).toNatClampNeg) = 0) → w_X10_refuses (8 : Int32) (0 : Int32) u (fun r_15 u_16 => Q r_15 u_16)))
set_option maxHeartbeats 4000000 in
set_option maxRecDepth 100000 in
theorem c_X10_takesBack (l : Launch) (g : GE) (U : MU) (u : MU) (W : (Nat → Int64) × (Nat → UInt64)) {Q : Int32 → MU → Prop} (h : w_X10_takesBack u Q) : Met l yX10_takesBack (.code yX10_takesBack cX10_takesBack 1 (Option.some Jvm.ClassFile.FieldType.int) :: TB) rm_X10_takesBack (zPc g (U, u, W) [.ref (g.2.2.1 117)]) (zQi g (zPm U W Q)) 0 0 (zA g) := by
  unfold w_X10_takesBack at h
  refine zMet (own := RX10) [(0, .ref (g.2.2.1 117))] (by decide +kernel) rfl (Nat.le_of_ble_eq_true rfl) rfl (fun p e s m args below meth c C hr => ?_)
  refine zm_aload_n C dX10_takesBack_0 rfl 0 rfl ?_
  refine gf_RX10_9 (k1 := 118) C kd_117 rfl dX10_takesBack_1 ?_
  refine zm_iconst (v := 4) C dX10_takesBack_4 (by decide) ?_
  obtain ⟨hg_1, h⟩ := h
  refine zq_ld_m C kd_118 ln_118 hg_1 dX10_takesBack_5 ?_
  refine zm_if_ne (tgt := 17) C dX10_takesBack_6 (by decide) (fun hc_2 => ?_) (fun hc_2 => ?_)
  · have h := h.1 hc_2
    refine zm_aload_n C dX10_takesBack_17 rfl 0 rfl ?_
    refine gf_RX10_9 (k1 := 118) C kd_117 rfl dX10_takesBack_18 ?_
    refine zm_iconst (v := 5) C dX10_takesBack_21 (by decide) ?_
    obtain ⟨hg_3, h⟩ := h
    refine zq_ld_m C kd_118 ln_118 hg_3 dX10_takesBack_22 ?_
    refine zm_if_ne (tgt := 34) C dX10_takesBack_23 (by decide) (fun hc_4 => ?_) (fun hc_4 => ?_)
    · have h := h.1 hc_4
      refine zm_aload_n C dX10_takesBack_34 rfl 0 rfl ?_
      refine gf_RX10_9 (k1 := 118) C kd_117 rfl dX10_takesBack_35 ?_
      refine zm_iconst (v := 5) C dX10_takesBack_38 (by decide) ?_
      refine zm_dup2_11 C dX10_takesBack_39 rfl rfl ?_
      obtain ⟨hg_5, h⟩ := h
      refine zq_ld_m C kd_118 ln_118 hg_5 dX10_takesBack_40 ?_
      refine zm_iconst (v := 1) C dX10_takesBack_41 (by decide) ?_
      refine zm_isub C dX10_takesBack_42 ?_
      obtain ⟨hg_6, h⟩ := h
      refine zq_st_m C kd_118 ln_118 hg_6 dX10_takesBack_43 (fun u_7 hu_7 => ?_)
      have h := h u_7 hu_7
      refine zm_aload_n C dX10_takesBack_44 rfl 0 rfl ?_
      refine gf_RX10_9 (k1 := 118) C kd_117 rfl dX10_takesBack_45 ?_
      refine zm_iconst (v := 4) C dX10_takesBack_48 (by decide) ?_
      refine zm_aload_n C dX10_takesBack_49 rfl 0 rfl ?_
      refine gf_RX10_9 (k1 := 118) C kd_117 rfl dX10_takesBack_50 ?_
      refine zm_bipush (v := 39) C dX10_takesBack_53 (by decide) ?_
      refine zm_aload_n C dX10_takesBack_55 rfl 0 rfl ?_
      refine gf_RX10_9 (k1 := 118) C kd_117 rfl dX10_takesBack_56 ?_
      refine zm_iconst (v := 5) C dX10_takesBack_59 (by decide) ?_
      obtain ⟨hg_8, h⟩ := h
      refine zq_ld_m C kd_118 ln_118 hg_8 dX10_takesBack_60 ?_
      refine zm_iadd C dX10_takesBack_61 ?_
      obtain ⟨hg_9, h⟩ := h
      refine zq_ld_m C kd_118 ln_118 hg_9 dX10_takesBack_62 ?_
      refine zm_iconst (v := 1) C dX10_takesBack_63 (by decide) ?_
      refine zm_iadd C dX10_takesBack_64 ?_
      obtain ⟨hg_10, h⟩ := h
      refine zq_st_m C kd_118 ln_118 hg_10 dX10_takesBack_65 (fun u_11 hu_11 => ?_)
      have h := h u_11 hu_11
      refine zm_aload_n C dX10_takesBack_66 rfl 0 rfl ?_
      refine gf_RX10_9 (k1 := 118) C kd_117 rfl dX10_takesBack_67 ?_
      refine zm_iconst (v := 5) C dX10_takesBack_70 (by decide) ?_
      obtain ⟨hg_12, h⟩ := h
      refine zq_ld_m C kd_118 ln_118 hg_12 dX10_takesBack_71 ?_
      exact zm_iret C hr dX10_takesBack_72 ⟨_, rfl, h⟩
    · have h := h.2 hc_4
      refine zm_aload_n C dX10_takesBack_26 rfl 0 rfl ?_
      refine zm_bipush (v := 11) C dX10_takesBack_27 (by decide) ?_
      refine zm_iconst (v := 0) C dX10_takesBack_29 (by decide) ?_
      refine zm_ci (zr_V (As := [.int (11 : Int32), .int (0 : Int32)]) (rest := []) C (c_X10_refuses l g U u W (11 : Int32) (0 : Int32) h) wd_1192 wd_1194 wp_31 wd_11 wd_1195 hy_X10_refuses rfl rfl ⟨by decide, by decide⟩ ⟨by decide, by decide⟩ (ci := 10) (by decide) (zCell_k kd_117) rfl rfl rfl rfl (Nat.le_of_ble_eq_true rfl) dX10_takesBack_30) (fun r_13 M1 hq => ?_)
      obtain ⟨u_14, rfl, h⟩ := hq
      exact zm_iret C hr dX10_takesBack_33 ⟨_, rfl, h⟩
  · have h := h.2 hc_2
    refine zm_aload_n C dX10_takesBack_9 rfl 0 rfl ?_
    refine zm_bipush (v := 8) C dX10_takesBack_10 (by decide) ?_
    refine zm_iconst (v := 0) C dX10_takesBack_12 (by decide) ?_
    refine zm_ci (zr_V (As := [.int (8 : Int32), .int (0 : Int32)]) (rest := []) C (c_X10_refuses l g U u W (8 : Int32) (0 : Int32) h) wd_1192 wd_1194 wp_31 wd_11 wd_1195 hy_X10_refuses rfl rfl ⟨by decide, by decide⟩ ⟨by decide, by decide⟩ (ci := 10) (by decide) (zCell_k kd_117) rfl rfl rfl rfl (Nat.le_of_ble_eq_true rfl) dX10_takesBack_13) (fun r_15 M1 hq => ?_)
    obtain ⟨u_16, rfl, h⟩ := hq
    exact zm_iret C hr dX10_takesBack_16 ⟨_, rfl, h⟩
abbrev rm_X10_back : Room := { frames := 2, cells := 0, slots := 0, locals := 43 }
def w_X10_back (u : MU) (Q : Int32 → MU → Prop) : Prop := w_X10_tries  u (fun u_2 => w_X10_takesBack  u_2 (fun r_3 u_4 => w_X10_keeps r_3 u_4 (fun r_5 u_6 => Q r_5 u_6)))
set_option maxHeartbeats 4000000 in
set_option maxRecDepth 100000 in
theorem c_X10_back (l : Launch) (g : GE) (U : MU) (u : MU) (W : (Nat → Int64) × (Nat → UInt64)) {Q : Int32 → MU → Prop} (h : w_X10_back u Q) : Met l yX10_back (.code yX10_back cX10_back 1 (Option.some Jvm.ClassFile.FieldType.int) :: TB) rm_X10_back (zPc g (U, u, W) [.ref (g.2.2.1 117)]) (zQi g (zPm U W Q)) 0 0 (zA g) := by
  unfold w_X10_back at h
  refine zMet (own := RX10) [(0, .ref (g.2.2.1 117))] (by decide +kernel) rfl (Nat.le_of_ble_eq_true rfl) rfl (fun p e s m args below meth c C hr => ?_)
  refine zm_aload_n C dX10_back_0 rfl 0 rfl ?_
  refine zm_cv (zr_V (As := []) (rest := []) C (c_X10_tries l g U u W  h) wd_1184 wd_1186 wp_29 wd_11 wd_1187 hy_X10_tries rfl rfl ⟨by decide, by decide⟩ ⟨by decide, by decide⟩ (ci := 10) (by decide) (zCell_k kd_117) rfl rfl rfl rfl (Nat.le_of_ble_eq_true rfl) dX10_back_1) (fun M1 hq => ?_)
  obtain ⟨u_2, rfl, h⟩ := hq
  refine zm_aload_n C dX10_back_4 rfl 0 rfl ?_
  refine zm_aload_n C dX10_back_5 rfl 0 rfl ?_
  refine zm_ci (zr_V (As := []) (rest := [.ref (g.2.2.1 117)]) C (c_X10_takesBack l g U u_2 W  h) wd_1340 wd_1342 wp_54 wd_11 wd_1343 hy_X10_takesBack rfl rfl ⟨by decide, by decide⟩ ⟨by decide, by decide⟩ (ci := 10) (by decide) (zCell_k kd_117) rfl rfl rfl rfl (Nat.le_of_ble_eq_true rfl) dX10_back_6) (fun r_3 M1 hq => ?_)
  obtain ⟨u_4, rfl, h⟩ := hq
  refine zm_ci (zr_V (As := [.int r_3]) (rest := []) C (c_X10_keeps l g U u_4 W r_3 h) wd_1200 wd_1202 wp_33 wd_11 wd_1203 hy_X10_keeps rfl rfl ⟨by decide, by decide⟩ ⟨by decide, by decide⟩ (ci := 10) (by decide) (zCell_k kd_117) rfl rfl rfl rfl (Nat.le_of_ble_eq_true rfl) dX10_back_9) (fun r_5 M1 hq => ?_)
  obtain ⟨u_6, rfl, h⟩ := hq
  exact zm_iret C hr dX10_back_12 ⟨_, rfl, h⟩
abbrev rm_X10_position : Room := { frames := 3, cells := 0, slots := 0, locals := 66 }
def wb_X10_position_16 (Q : Int32 → MU → Prop) (x1 : Int32) (x2 : Int32) (x3 : Int32) (x4 : Int32) (s0 : Int32) (u : MU) : Prop := (∀ u_1, u_1 = u2 u 117 17 s0 → ((¬ (u_1 117 17) = 0) → Q (0 : Int32) u_1) ∧ (((u_1 117 17) = 0) → w_X10_numberOf x1 x2 x3 x4 (fun r_3 => Q r_3 u_1)))
set_option maxHeartbeats 4000000 in
set_option maxRecDepth 100000 in
theorem vb_X10_position_16 {p : Program} {l : Launch} {e : Env} {s : State} {m : MethodId} {args : Array Value} {below : List Frame} {meth : Method} {c : Code} {g : GE} {U : MU} {W : (Nat → Int64) × (Nat → UInt64)} {Q : Int32 → MU → Prop} (C : zCx p l s m args meth c g RX10 cX10_position 5) (hr : meth.sig.returnType = (Option.some Jvm.ClassFile.FieldType.int)) (x1 : Int32) (x2 : Int32) (x3 : Int32) (x4 : Int32) (s0 : Int32) (u : MU) (h : wb_X10_position_16   Q x1 x2 x3 x4 s0 u) : WM p l e rm_X10_position s m args below meth c g 5 0 0 (MQ below (zQi g (zPm U W Q)) args s 0 0 (zA g)) 16 [(0, .ref (g.2.2.1 117)), (1, .int x1), (2, .int x2), (3, .int x3), (4, .int x4)] [.int s0, .ref (g.2.2.1 117)] (U, u, W) := by
  unfold wb_X10_position_16 at h
  refine pf_RX10_54 C kd_117  dX10_position_16 (fun u_1 hu_1 => ?_)
  have h := h u_1 hu_1
  refine zm_aload_n C dX10_position_19 rfl 0 rfl ?_
  refine gf_RX10_54 C kd_117 dX10_position_20 ?_
  refine zm_if_ne (tgt := 37) C dX10_position_23 (by decide) (fun hc_2 => ?_) (fun hc_2 => ?_)
  · have h := h.1 hc_2
    refine zm_iconst (v := 0) C dX10_position_37 (by decide) ?_
    exact zm_iret C hr dX10_position_38 ⟨_, rfl, h⟩
  · have h := h.2 hc_2
    refine zm_iload_n C dX10_position_26 rfl 1 rfl ?_
    refine zm_iload_n C dX10_position_27 rfl 2 rfl ?_
    refine zm_iload_n C dX10_position_28 rfl 3 rfl ?_
    refine zm_iload C dX10_position_29 4 rfl ?_
    refine zm_ci (zr_S (As := [.int x1, .int x2, .int x3, .int x4]) (rest := []) C (c_X10_numberOf l g (U, u_1, W) x1 x2 x3 x4 h) wd_1315 wd_1316 wd_11 wd_1317 hy_X10_numberOf rfl rfl ⟨by decide, by decide⟩ ⟨by decide, by decide⟩ rfl rfl (Nat.le_of_ble_eq_true rfl) dX10_position_31) (fun r_3 M1 hq => ?_)
    obtain ⟨rfl, h⟩ := hq
    refine zm_goto (tgt := 38) C dX10_position_34 (by decide) ?_
    exact zm_iret C hr dX10_position_38 ⟨_, rfl, h⟩
def w_X10_position (x1 : Int32) (x2 : Int32) (x3 : Int32) (x4 : Int32) (u : MU) (Q : Int32 → MU → Prop) : Prop := w_X10_is u x1 x2 x3 (fun r_1 => ((r_1 = 0) → wb_X10_position_16   Q x1 x2 x3 x4 (1 : Int32) u) ∧ ((¬ r_1 = 0) → wb_X10_position_16   Q x1 x2 x3 x4 (0 : Int32) u))
set_option maxHeartbeats 4000000 in
set_option maxRecDepth 100000 in
theorem c_X10_position (l : Launch) (g : GE) (U : MU) (u : MU) (W : (Nat → Int64) × (Nat → UInt64)) (x1 : Int32) (x2 : Int32) (x3 : Int32) (x4 : Int32) {Q : Int32 → MU → Prop} (h : w_X10_position x1 x2 x3 x4 u Q) : Met l yX10_position (.code yX10_position cX10_position 5 (Option.some Jvm.ClassFile.FieldType.int) :: TB) rm_X10_position (zPc g (U, u, W) [.ref (g.2.2.1 117), .int x1, .int x2, .int x3, .int x4]) (zQi g (zPm U W Q)) 0 0 (zA g) := by
  unfold w_X10_position at h
  refine zMet (own := RX10) [(0, .ref (g.2.2.1 117)), (1, .int x1), (2, .int x2), (3, .int x3), (4, .int x4)] (by decide +kernel) rfl (Nat.le_of_ble_eq_true rfl) rfl (fun p e s m args below meth c C hr => ?_)
  refine zm_aload_n C dX10_position_0 rfl 0 rfl ?_
  refine zm_aload_n C dX10_position_1 rfl 0 rfl ?_
  refine zm_iload_n C dX10_position_2 rfl 1 rfl ?_
  refine zm_iload_n C dX10_position_3 rfl 2 rfl ?_
  refine zm_iload_n C dX10_position_4 rfl 3 rfl ?_
  refine zm_ci (zr_V (As := [.int x1, .int x2, .int x3]) (rest := [.ref (g.2.2.1 117)]) C (c_X10_is l g U u W x1 x2 x3 h) wd_1281 wd_1283 wp_45 wd_11 wd_1284 hy_X10_is rfl rfl ⟨by decide, by decide⟩ ⟨by decide, by decide⟩ (ci := 10) (by decide) (zCell_k kd_117) rfl rfl rfl rfl (Nat.le_of_ble_eq_true rfl) dX10_position_5) (fun r_1 M1 hq => ?_)
  obtain ⟨rfl, h⟩ := hq
  refine zm_if_eq (tgt := 15) C dX10_position_8 (by decide) (fun hc_3 => ?_) (fun hc_3 => ?_)
  · have h := h.1 hc_3
    refine zm_iconst (v := 1) C dX10_position_15 (by decide) ?_
    exact zm_sub [0, 1, 2, 3, 4] rfl (vb_X10_position_16 C hr  _ _ _ _ _ _ h)
  · have h := h.2 hc_3
    refine zm_iconst (v := 0) C dX10_position_11 (by decide) ?_
    refine zm_goto (tgt := 16) C dX10_position_12 (by decide) ?_
    exact zm_sub [0, 1, 2, 3, 4] rfl (vb_X10_position_16 C hr  _ _ _ _ _ _ h)
abbrev rm_X10_positionOf : Room := { frames := 6, cells := 0, slots := 0, locals := 135 }
def w_X10_positionOf (x1 : Int32) (x2 : Int32) (u : MU) (Q : Int32 → MU → Prop) : Prop := w_X10_knows  u (fun u_2 => w_X10_in x2 (0 : Int32) (6 : Int32) (fun r_3 => ((¬ r_3 = 0) → w_X10_isPosition u_2 x1 (fun r_6 => ((¬ r_6 = 0) → (x2 = (0 : Int32) → w_X10_fox x1 (fun r_11 => Q r_11 u_2)) ∧ (¬ x2 = (0 : Int32) → (x2 = (1 : Int32) → w_X10_first x1 (fun r_14 => Q r_14 u_2)) ∧ (¬ x2 = (1 : Int32) → (x2 = (2 : Int32) → w_X10_second x1 (fun r_17 => Q r_17 u_2)) ∧ (¬ x2 = (2 : Int32) → (x2 = (3 : Int32) → w_X10_isGeese x1 (fun r_20 => ((r_20 = 0) → Q (0 : Int32) u_2) ∧ ((¬ r_20 = 0) → Q (1 : Int32) u_2))) ∧ (¬ x2 = (3 : Int32) → (x2 = (4 : Int32) → w_X10_finds x1 u_2 (fun u_25 => Q (u_25 117 25) u_25)) ∧ (¬ x2 = (4 : Int32) → (x2 = (5 : Int32) → vp_in x1 1296 ∧ (Q (u_2 126 (x1).toNatClampNeg) u_2)) ∧ (¬ x2 = (5 : Int32) → vp_in x1 1296 ∧ (Q (u_2 127 (x1).toNatClampNeg) u_2)))))))) ∧ ((r_6 = 0) → w_X10_raises (2 : Int32) u_2 (fun r_29 u_30 => Q r_29 u_30)))) ∧ ((r_3 = 0) → w_X10_raises (1 : Int32) u_2 (fun r_31 u_32 => Q r_31 u_32))))
set_option maxHeartbeats 4000000 in
set_option maxRecDepth 100000 in
theorem c_X10_positionOf (l : Launch) (g : GE) (U : MU) (u : MU) (W : (Nat → Int64) × (Nat → UInt64)) (x1 : Int32) (x2 : Int32) {Q : Int32 → MU → Prop} (h : w_X10_positionOf x1 x2 u Q) : Met l yX10_positionOf (.code yX10_positionOf cX10_positionOf 3 (Option.some Jvm.ClassFile.FieldType.int) :: TB) rm_X10_positionOf (zPc g (U, u, W) [.ref (g.2.2.1 117), .int x1, .int x2]) (zQi g (zPm U W Q)) 0 0 (zA g) := by
  unfold w_X10_positionOf at h
  refine zMet (own := RX10) [(0, .ref (g.2.2.1 117)), (1, .int x1), (2, .int x2)] (by decide +kernel) rfl (Nat.le_of_ble_eq_true rfl) rfl (fun p e s m args below meth c C hr => ?_)
  refine zm_aload_n C dX10_positionOf_0 rfl 0 rfl ?_
  refine zm_cv (zr_V (As := []) (rest := []) C (c_X10_knows l g U u W  h) wd_1352 wd_1354 wp_55 wd_11 wd_1355 hy_X10_knows rfl rfl ⟨by decide, by decide⟩ ⟨by decide, by decide⟩ (ci := 10) (by decide) (zCell_k kd_117) rfl rfl rfl rfl (Nat.le_of_ble_eq_true rfl) dX10_positionOf_1) (fun M1 hq => ?_)
  obtain ⟨u_2, rfl, h⟩ := hq
  refine zm_iload_n C dX10_positionOf_4 rfl 2 rfl ?_
  refine zm_iconst (v := 0) C dX10_positionOf_5 (by decide) ?_
  refine zm_bipush (v := 6) C dX10_positionOf_6 (by decide) ?_
  refine zm_ci (zr_S (As := [.int x2, .int (0 : Int32), .int (6 : Int32)]) (rest := []) C (c_X10_in l g (U, u_2, W) x2 (0 : Int32) (6 : Int32) h) wd_1224 wd_1225 wd_11 wd_1226 hy_X10_in rfl rfl ⟨by decide, by decide⟩ ⟨by decide, by decide⟩ rfl rfl (Nat.le_of_ble_eq_true rfl) dX10_positionOf_8) (fun r_3 M1 hq => ?_)
  obtain ⟨rfl, h⟩ := hq
  refine zm_if_ne (tgt := 20) C dX10_positionOf_11 (by decide) (fun hc_5 => ?_) (fun hc_5 => ?_)
  · have h := h.1 hc_5
    refine zm_aload_n C dX10_positionOf_20 rfl 0 rfl ?_
    refine zm_iload_n C dX10_positionOf_21 rfl 1 rfl ?_
    refine zm_ci (zr_V (As := [.int x1]) (rest := []) C (c_X10_isPosition l g U u_2 W x1 h) wd_1268 wd_1270 wp_44 wd_11 wd_1271 hy_X10_isPosition rfl rfl ⟨by decide, by decide⟩ ⟨by decide, by decide⟩ (ci := 10) (by decide) (zCell_k kd_117) rfl rfl rfl rfl (Nat.le_of_ble_eq_true rfl) dX10_positionOf_22) (fun r_6 M1 hq => ?_)
    obtain ⟨rfl, h⟩ := hq
    refine zm_if_ne (tgt := 34) C dX10_positionOf_25 (by decide) (fun hc_8 => ?_) (fun hc_8 => ?_)
    · have h := h.1 hc_8
      refine zm_iload_n C dX10_positionOf_34 rfl 2 rfl ?_
      by_cases hc_10 : x2 = (0 : Int32)
      · have h := h.1 hc_10
        refine zm_tableIn (tgt := 72) C dX10_positionOf_35 (by rw [hc_10]; decide) (by rw [hc_10]; decide) (by rw [hc_10]; rfl) (by decide) ?_
        refine zm_iload_n C dX10_positionOf_72 rfl 1 rfl ?_
        refine zm_ci (zr_S (As := [.int x1]) (rest := []) C (c_X10_fox l g (U, u_2, W) x1 h) wd_1272 wd_1273 wd_11 wd_1274 hy_X10_fox rfl rfl ⟨by decide, by decide⟩ ⟨by decide, by decide⟩ rfl rfl (Nat.le_of_ble_eq_true rfl) dX10_positionOf_73) (fun r_11 M1 hq => ?_)
        obtain ⟨rfl, h⟩ := hq
        exact zm_iret C hr dX10_positionOf_76 ⟨_, rfl, h⟩
      · have h := h.2 hc_10
        by_cases hc_13 : x2 = (1 : Int32)
        · have h := h.1 hc_13
          refine zm_tableIn (tgt := 77) C dX10_positionOf_35 (by rw [hc_13]; decide) (by rw [hc_13]; decide) (by rw [hc_13]; rfl) (by decide) ?_
          refine zm_iload_n C dX10_positionOf_77 rfl 1 rfl ?_
          refine zm_ci (zr_S (As := [.int x1]) (rest := []) C (c_X10_first l g (U, u_2, W) x1 h) wd_1275 wd_1276 wd_11 wd_1277 hy_X10_first rfl rfl ⟨by decide, by decide⟩ ⟨by decide, by decide⟩ rfl rfl (Nat.le_of_ble_eq_true rfl) dX10_positionOf_78) (fun r_14 M1 hq => ?_)
          obtain ⟨rfl, h⟩ := hq
          exact zm_iret C hr dX10_positionOf_81 ⟨_, rfl, h⟩
        · have h := h.2 hc_13
          by_cases hc_16 : x2 = (2 : Int32)
          · have h := h.1 hc_16
            refine zm_tableIn (tgt := 82) C dX10_positionOf_35 (by rw [hc_16]; decide) (by rw [hc_16]; decide) (by rw [hc_16]; rfl) (by decide) ?_
            refine zm_iload_n C dX10_positionOf_82 rfl 1 rfl ?_
            refine zm_ci (zr_S (As := [.int x1]) (rest := []) C (c_X10_second l g (U, u_2, W) x1 h) wd_1278 wd_1279 wd_11 wd_1280 hy_X10_second rfl rfl ⟨by decide, by decide⟩ ⟨by decide, by decide⟩ rfl rfl (Nat.le_of_ble_eq_true rfl) dX10_positionOf_83) (fun r_17 M1 hq => ?_)
            obtain ⟨rfl, h⟩ := hq
            exact zm_iret C hr dX10_positionOf_86 ⟨_, rfl, h⟩
          · have h := h.2 hc_16
            by_cases hc_19 : x2 = (3 : Int32)
            · have h := h.1 hc_19
              refine zm_tableIn (tgt := 87) C dX10_positionOf_35 (by rw [hc_19]; decide) (by rw [hc_19]; decide) (by rw [hc_19]; rfl) (by decide) ?_
              refine zm_iload_n C dX10_positionOf_87 rfl 1 rfl ?_
              refine zm_ci (zr_S (As := [.int x1]) (rest := []) C (c_X10_isGeese l g (U, u_2, W) x1 h) wd_1293 wd_1294 wd_11 wd_1295 hy_X10_isGeese rfl rfl ⟨by decide, by decide⟩ ⟨by decide, by decide⟩ rfl rfl (Nat.le_of_ble_eq_true rfl) dX10_positionOf_88) (fun r_20 M1 hq => ?_)
              obtain ⟨rfl, h⟩ := hq
              refine zm_if_eq (tgt := 98) C dX10_positionOf_91 (by decide) (fun hc_22 => ?_) (fun hc_22 => ?_)
              · have h := h.1 hc_22
                refine zm_iconst (v := 0) C dX10_positionOf_98 (by decide) ?_
                exact zm_iret C hr dX10_positionOf_99 ⟨_, rfl, h⟩
              · have h := h.2 hc_22
                refine zm_iconst (v := 1) C dX10_positionOf_94 (by decide) ?_
                refine zm_goto (tgt := 99) C dX10_positionOf_95 (by decide) ?_
                exact zm_iret C hr dX10_positionOf_99 ⟨_, rfl, h⟩
            · have h := h.2 hc_19
              by_cases hc_23 : x2 = (4 : Int32)
              · have h := h.1 hc_23
                refine zm_tableIn (tgt := 100) C dX10_positionOf_35 (by rw [hc_23]; decide) (by rw [hc_23]; decide) (by rw [hc_23]; rfl) (by decide) ?_
                refine zm_aload_n C dX10_positionOf_100 rfl 0 rfl ?_
                refine zm_iload_n C dX10_positionOf_101 rfl 1 rfl ?_
                refine zm_cv (zr_V (As := [.int x1]) (rest := []) C (c_X10_finds l g U u_2 W x1 h) wd_1289 wd_1291 wp_47 wd_11 wd_1292 hy_X10_finds rfl rfl ⟨by decide, by decide⟩ ⟨by decide, by decide⟩ (ci := 10) (by decide) (zCell_k kd_117) rfl rfl rfl rfl (Nat.le_of_ble_eq_true rfl) dX10_positionOf_102) (fun M1 hq => ?_)
                obtain ⟨u_25, rfl, h⟩ := hq
                refine zm_aload_n C dX10_positionOf_105 rfl 0 rfl ?_
                refine gf_RX10_103 C kd_117 dX10_positionOf_106 ?_
                exact zm_iret C hr dX10_positionOf_109 ⟨_, rfl, h⟩
              · have h := h.2 hc_23
                by_cases hc_26 : x2 = (5 : Int32)
                · have h := h.1 hc_26
                  refine zm_tableIn (tgt := 110) C dX10_positionOf_35 (by rw [hc_26]; decide) (by rw [hc_26]; decide) (by rw [hc_26]; rfl) (by decide) ?_
                  refine zm_aload_n C dX10_positionOf_110 rfl 0 rfl ?_
                  refine gf_RX10_39 (k1 := 126) C kd_117 rfl dX10_positionOf_111 ?_
                  refine zm_iload_n C dX10_positionOf_114 rfl 1 rfl ?_
                  obtain ⟨hg_27, h⟩ := h
                  refine zq_ld_m C kd_126 ln_126 hg_27 dX10_positionOf_115 ?_
                  exact zm_iret C hr dX10_positionOf_116 ⟨_, rfl, h⟩
                · have h := h.2 hc_26
                  have n0 := lv_neT (a := 0) hc_10 rfl
                  have n1 := lv_neT (a := 1) hc_13 rfl
                  have n2 := lv_neT (a := 2) hc_16 rfl
                  have n3 := lv_neT (a := 3) hc_19 rfl
                  have n4 := lv_neT (a := 4) hc_23 rfl
                  have n5 := lv_neT (a := 5) hc_26 rfl
                  refine zm_tableOut (tgt := 117) C dX10_positionOf_35 (by omega) (by decide) ?_
                  refine zm_aload_n C dX10_positionOf_117 rfl 0 rfl ?_
                  refine gf_RX10_42 (k1 := 127) C kd_117 rfl dX10_positionOf_118 ?_
                  refine zm_iload_n C dX10_positionOf_121 rfl 1 rfl ?_
                  obtain ⟨hg_28, h⟩ := h
                  refine zq_ld_m C kd_127 ln_127 hg_28 dX10_positionOf_122 ?_
                  exact zm_iret C hr dX10_positionOf_123 ⟨_, rfl, h⟩
    · have h := h.2 hc_8
      refine zm_aload_n C dX10_positionOf_28 rfl 0 rfl ?_
      refine zm_iconst (v := 2) C dX10_positionOf_29 (by decide) ?_
      refine zm_ci (zr_V (As := [.int (2 : Int32)]) (rest := []) C (c_X10_raises l g U u_2 W (2 : Int32) h) wd_1204 wd_1206 wp_34 wd_11 wd_1207 hy_X10_raises rfl rfl ⟨by decide, by decide⟩ ⟨by decide, by decide⟩ (ci := 10) (by decide) (zCell_k kd_117) rfl rfl rfl rfl (Nat.le_of_ble_eq_true rfl) dX10_positionOf_30) (fun r_29 M1 hq => ?_)
      obtain ⟨u_30, rfl, h⟩ := hq
      exact zm_iret C hr dX10_positionOf_33 ⟨_, rfl, h⟩
  · have h := h.2 hc_5
    refine zm_aload_n C dX10_positionOf_14 rfl 0 rfl ?_
    refine zm_iconst (v := 1) C dX10_positionOf_15 (by decide) ?_
    refine zm_ci (zr_V (As := [.int (1 : Int32)]) (rest := []) C (c_X10_raises l g U u_2 W (1 : Int32) h) wd_1204 wd_1206 wp_34 wd_11 wd_1207 hy_X10_raises rfl rfl ⟨by decide, by decide⟩ ⟨by decide, by decide⟩ (ci := 10) (by decide) (zCell_k kd_117) rfl rfl rfl rfl (Nat.le_of_ble_eq_true rfl) dX10_positionOf_16) (fun r_31 M1 hq => ?_)
    obtain ⟨u_32, rfl, h⟩ := hq
    exact zm_iret C hr dX10_positionOf_19 ⟨_, rfl, h⟩
abbrev rm_X10_outcomeAgain : Room := { frames := 6, cells := 0, slots := 0, locals := 135 }
def w_X10_outcomeAgain (x1 : Int32) (u : MU) (Q : Int32 → MU → Prop) : Prop := w_X10_knows  u (fun u_2 => w_X10_isPosition u_2 x1 (fun r_3 => ((r_3 = 0) → w_X10_raises (1 : Int32) u_2 (fun r_6 u_7 => Q r_6 u_7)) ∧ ((¬ r_3 = 0) → vp_in x1 1296 ∧ (Q (u_2 126 (x1).toNatClampNeg) u_2))))
set_option maxHeartbeats 4000000 in
set_option maxRecDepth 100000 in
theorem c_X10_outcomeAgain (l : Launch) (g : GE) (U : MU) (u : MU) (W : (Nat → Int64) × (Nat → UInt64)) (x1 : Int32) {Q : Int32 → MU → Prop} (h : w_X10_outcomeAgain x1 u Q) : Met l yX10_outcomeAgain (.code yX10_outcomeAgain cX10_outcomeAgain 2 (Option.some Jvm.ClassFile.FieldType.int) :: TB) rm_X10_outcomeAgain (zPc g (U, u, W) [.ref (g.2.2.1 117), .int x1]) (zQi g (zPm U W Q)) 0 0 (zA g) := by
  unfold w_X10_outcomeAgain at h
  refine zMet (own := RX10) [(0, .ref (g.2.2.1 117)), (1, .int x1)] (by decide +kernel) rfl (Nat.le_of_ble_eq_true rfl) rfl (fun p e s m args below meth c C hr => ?_)
  refine zm_aload_n C dX10_outcomeAgain_0 rfl 0 rfl ?_
  refine zm_cv (zr_V (As := []) (rest := []) C (c_X10_knows l g U u W  h) wd_1352 wd_1354 wp_55 wd_11 wd_1355 hy_X10_knows rfl rfl ⟨by decide, by decide⟩ ⟨by decide, by decide⟩ (ci := 10) (by decide) (zCell_k kd_117) rfl rfl rfl rfl (Nat.le_of_ble_eq_true rfl) dX10_outcomeAgain_1) (fun M1 hq => ?_)
  obtain ⟨u_2, rfl, h⟩ := hq
  refine zm_aload_n C dX10_outcomeAgain_4 rfl 0 rfl ?_
  refine zm_iload_n C dX10_outcomeAgain_5 rfl 1 rfl ?_
  refine zm_ci (zr_V (As := [.int x1]) (rest := []) C (c_X10_isPosition l g U u_2 W x1 h) wd_1268 wd_1270 wp_44 wd_11 wd_1271 hy_X10_isPosition rfl rfl ⟨by decide, by decide⟩ ⟨by decide, by decide⟩ (ci := 10) (by decide) (zCell_k kd_117) rfl rfl rfl rfl (Nat.le_of_ble_eq_true rfl) dX10_outcomeAgain_6) (fun r_3 M1 hq => ?_)
  obtain ⟨rfl, h⟩ := hq
  refine zm_if_eq (tgt := 21) C dX10_outcomeAgain_9 (by decide) (fun hc_5 => ?_) (fun hc_5 => ?_)
  · have h := h.1 hc_5
    refine zm_aload_n C dX10_outcomeAgain_21 rfl 0 rfl ?_
    refine zm_iconst (v := 1) C dX10_outcomeAgain_22 (by decide) ?_
    refine zm_ci (zr_V (As := [.int (1 : Int32)]) (rest := []) C (c_X10_raises l g U u_2 W (1 : Int32) h) wd_1204 wd_1206 wp_34 wd_11 wd_1207 hy_X10_raises rfl rfl ⟨by decide, by decide⟩ ⟨by decide, by decide⟩ (ci := 10) (by decide) (zCell_k kd_117) rfl rfl rfl rfl (Nat.le_of_ble_eq_true rfl) dX10_outcomeAgain_23) (fun r_6 M1 hq => ?_)
    obtain ⟨u_7, rfl, h⟩ := hq
    exact zm_iret C hr dX10_outcomeAgain_26 ⟨_, rfl, h⟩
  · have h := h.2 hc_5
    refine zm_aload_n C dX10_outcomeAgain_12 rfl 0 rfl ?_
    refine gf_RX10_39 (k1 := 126) C kd_117 rfl dX10_outcomeAgain_13 ?_
    refine zm_iload_n C dX10_outcomeAgain_16 rfl 1 rfl ?_
    obtain ⟨hg_8, h⟩ := h
    refine zq_ld_m C kd_126 ln_126 hg_8 dX10_outcomeAgain_17 ?_
    refine zm_goto (tgt := 26) C dX10_outcomeAgain_18 (by decide) ?_
    exact zm_iret C hr dX10_outcomeAgain_26 ⟨_, rfl, h⟩
