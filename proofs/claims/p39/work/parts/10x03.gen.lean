abbrev rm_X9_longest : Room := { frames := 6, cells := 1, slots := 6, locals := 107 }
def wb_X9_longest_117 (L32 : Int32 → Int32 → Int32 → Int32 → MU → Prop) (Q : Int32 → MU → Prop) (X : String → MU → Prop) (x2 : Int32) (x3 : Int32) (x4 : Int32) (x5 : Int32) (u : MU) : Prop := ∀ x5_1, x5_1 = x5 + (1 : Int32) → L32 x2 x3 x4 x5_1 u
set_option maxHeartbeats 4000000 in
set_option maxRecDepth 100000 in
theorem vb_X9_longest_117 {p : Program} {l : Launch} {e : Env} {s : State} {m : MethodId} {args : Array Value} {below : List Frame} {meth : Method} {c : Code} {g : GE} {W : MU × ((Nat → Int64) × (Nat → UInt64))} {Q : Int32 → MU → Prop} {X : String → MU → Prop} (C : zCx p l s m args meth c g RX9 cX9_longest 8) (hr : meth.sig.returnType = (Option.some Jvm.ClassFile.FieldType.int)) (hstk : l.stackTraces = false) (ht : ∀ x ∈ c.exceptionTable.toList, False) {L32 : Int32 → Int32 → Int32 → Int32 → MU → Prop} (hL32 : ∀ (x2 : Int32) (x3 : Int32) (x4 : Int32) (x5 : Int32) (u : MU), L32 x2 x3 x4 x5 u → WM p l e rm_X9_longest s m args below meth c g 8 0 0 (vx_MQ below (zQi g (zPx W Q)) (zXC g (zXx W X)) args s 1 6 (zA g)) 32 [(0, .ref (g.2.2.1 0)), (2, .int x2), (3, .int x3), (4, .int x4), (5, .int x5)] [] (u, W)) (x2 : Int32) (x3 : Int32) (x4 : Int32) (x5 : Int32) (u : MU) (h : wb_X9_longest_117 L32  Q X x2 x3 x4 x5 u) : WM p l e rm_X9_longest s m args below meth c g 8 0 0 (vx_MQ below (zQi g (zPx W Q)) (zXC g (zXx W X)) args s 1 6 (zA g)) 117 [(0, .ref (g.2.2.1 0)), (2, .int x2), (3, .int x3), (4, .int x4), (5, .int x5)] [] (u, W) := by
  unfold wb_X9_longest_117 at h
  obtain ⟨x5_1, hx5_1⟩ : ∃ z, z = x5 + (1 : Int32) := ⟨_, rfl⟩
  have h := h x5_1 hx5_1
  refine zm_iinc (v := x5_1) (lv' := [(5, .int x5_1), (0, .ref (g.2.2.1 0)), (2, .int x2), (3, .int x3), (4, .int x4)]) C dX9_longest_117 4 rfl (by rw [hx5_1]; rfl) (by decide) rfl ?_
  refine zm_goto (tgt := 32) C dX9_longest_120 (by decide) ?_
  exact zm_sub [1, 2, 3, 4, 0] rfl (hL32 _ _ _ _ _ h)
def wb_X9_longest_82 (L32 : Int32 → Int32 → Int32 → Int32 → MU → Prop) (Q : Int32 → MU → Prop) (X : String → MU → Prop) (x2 : Int32) (x3 : Int32) (x4 : Int32) (x5 : Int32) (x6 : Int32) (s0 : Int32) (u : MU) : Prop := ((s0 = 0) → wb_X9_longest_117 L32  Q X x2 x3 x4 x5 u) ∧ ((¬ s0 = 0) → w_X7_inMoves 95 u x6 (fun r_2 => ((r_2 ≤ x4) → wb_X9_longest_117 L32  Q X x2 x3 x4 x5 u) ∧ ((¬ r_2 ≤ x4) → w_X7_inMoves 95 u x6 (fun r_5 => wb_X9_longest_117 L32  Q X x2 x6 r_5 x5 u))))
set_option maxHeartbeats 4000000 in
set_option maxRecDepth 100000 in
theorem vb_X9_longest_82 {p : Program} {l : Launch} {e : Env} {s : State} {m : MethodId} {args : Array Value} {below : List Frame} {meth : Method} {c : Code} {g : GE} {W : MU × ((Nat → Int64) × (Nat → UInt64))} {Q : Int32 → MU → Prop} {X : String → MU → Prop} (C : zCx p l s m args meth c g RX9 cX9_longest 8) (hr : meth.sig.returnType = (Option.some Jvm.ClassFile.FieldType.int)) (hstk : l.stackTraces = false) (ht : ∀ x ∈ c.exceptionTable.toList, False) {L32 : Int32 → Int32 → Int32 → Int32 → MU → Prop} (hL32 : ∀ (x2 : Int32) (x3 : Int32) (x4 : Int32) (x5 : Int32) (u : MU), L32 x2 x3 x4 x5 u → WM p l e rm_X9_longest s m args below meth c g 8 0 0 (vx_MQ below (zQi g (zPx W Q)) (zXC g (zXx W X)) args s 1 6 (zA g)) 32 [(0, .ref (g.2.2.1 0)), (2, .int x2), (3, .int x3), (4, .int x4), (5, .int x5)] [] (u, W)) (x2 : Int32) (x3 : Int32) (x4 : Int32) (x5 : Int32) (x6 : Int32) (s0 : Int32) (u : MU) (h : wb_X9_longest_82 L32  Q X x2 x3 x4 x5 x6 s0 u) : WM p l e rm_X9_longest s m args below meth c g 8 0 0 (vx_MQ below (zQi g (zPx W Q)) (zXC g (zXx W X)) args s 1 6 (zA g)) 82 [(0, .ref (g.2.2.1 0)), (2, .int x2), (3, .int x3), (4, .int x4), (5, .int x5), (6, .int x6)] [.int s0] (u, W) := by
  unfold wb_X9_longest_82 at h
  refine zm_istore (lv' := [(7, .int s0), (0, .ref (g.2.2.1 0)), (2, .int x2), (3, .int x3), (4, .int x4), (5, .int x5), (6, .int x6)]) C dX9_longest_82 (by decide) rfl ?_
  refine zm_iload C dX9_longest_84 0 rfl ?_
  refine zm_if_eq (tgt := 117) C dX9_longest_86 (by decide) (fun hc_1 => ?_) (fun hc_1 => ?_)
  · have h := h.1 hc_1
    exact zm_sub [1, 2, 3, 4, 5] rfl (vb_X9_longest_117 C hr hstk ht hL32 _ _ _ _ _ h)
  · have h := h.2 hc_1
    refine zm_aload_n C dX9_longest_89 rfl 1 rfl ?_
    refine gf_RX9_39 (k1 := 95) C kd_0 rfl dX9_longest_90 ?_
    refine zm_iload C dX9_longest_93 6 rfl ?_
    refine zm_ci (zr_V (As := [.int x6]) (rest := []) C (c_X7_inMoves l g u W 95 kd_95 x6 h) wd_839 wd_840 wd_841 wd_6 wd_842 hy_X7_inMoves rfl rfl ⟨by decide, by decide⟩ ⟨by decide, by decide⟩ (ci := 7) (by decide) (zCell_k kd_95) rfl rfl rfl rfl (Nat.le_of_ble_eq_true rfl) dX9_longest_95) (fun r_2 M1 hq => ?_)
    obtain ⟨rfl, h⟩ := hq
    refine zm_iload C dX9_longest_98 4 rfl ?_
    refine zm_icmp_le (tgt := 117) C dX9_longest_100 (by decide) (fun hc_4 => ?_) (fun hc_4 => ?_)
    · have h := h.1 hc_4
      exact zm_sub [1, 2, 3, 4, 5] rfl (vb_X9_longest_117 C hr hstk ht hL32 _ _ _ _ _ h)
    · have h := h.2 hc_4
      refine zm_iload C dX9_longest_103 6 rfl ?_
      refine zm_istore_n (lv' := [(3, .int x6), (7, .int s0), (0, .ref (g.2.2.1 0)), (2, .int x2), (4, .int x4), (5, .int x5), (6, .int x6)]) C dX9_longest_105 rfl (by decide) rfl ?_
      refine zm_aload_n C dX9_longest_106 rfl 2 rfl ?_
      refine gf_RX9_39 (k1 := 95) C kd_0 rfl dX9_longest_107 ?_
      refine zm_iload C dX9_longest_110 6 rfl ?_
      refine zm_ci (zr_V (As := [.int x6]) (rest := []) C (c_X7_inMoves l g u W 95 kd_95 x6 h) wd_839 wd_840 wd_841 wd_6 wd_842 hy_X7_inMoves rfl rfl ⟨by decide, by decide⟩ ⟨by decide, by decide⟩ (ci := 7) (by decide) (zCell_k kd_95) rfl rfl rfl rfl (Nat.le_of_ble_eq_true rfl) dX9_longest_112) (fun r_5 M1 hq => ?_)
      obtain ⟨rfl, h⟩ := hq
      refine zm_istore (lv' := [(4, .int r_5), (3, .int x6), (7, .int s0), (0, .ref (g.2.2.1 0)), (2, .int x2), (5, .int x5), (6, .int x6)]) C dX9_longest_115 (by decide) rfl ?_
      exact zm_sub [3, 4, 1, 0, 5] rfl (vb_X9_longest_117 C hr hstk ht hL32 _ _ _ _ _ h)
def wb_X9_longest_81 (L32 : Int32 → Int32 → Int32 → Int32 → MU → Prop) (Q : Int32 → MU → Prop) (X : String → MU → Prop) (x2 : Int32) (x3 : Int32) (x4 : Int32) (x5 : Int32) (x6 : Int32) (u : MU) : Prop := wb_X9_longest_82 L32  Q X x2 x3 x4 x5 x6 (0 : Int32) u
set_option maxHeartbeats 4000000 in
set_option maxRecDepth 100000 in
theorem vb_X9_longest_81 {p : Program} {l : Launch} {e : Env} {s : State} {m : MethodId} {args : Array Value} {below : List Frame} {meth : Method} {c : Code} {g : GE} {W : MU × ((Nat → Int64) × (Nat → UInt64))} {Q : Int32 → MU → Prop} {X : String → MU → Prop} (C : zCx p l s m args meth c g RX9 cX9_longest 8) (hr : meth.sig.returnType = (Option.some Jvm.ClassFile.FieldType.int)) (hstk : l.stackTraces = false) (ht : ∀ x ∈ c.exceptionTable.toList, False) {L32 : Int32 → Int32 → Int32 → Int32 → MU → Prop} (hL32 : ∀ (x2 : Int32) (x3 : Int32) (x4 : Int32) (x5 : Int32) (u : MU), L32 x2 x3 x4 x5 u → WM p l e rm_X9_longest s m args below meth c g 8 0 0 (vx_MQ below (zQi g (zPx W Q)) (zXC g (zXx W X)) args s 1 6 (zA g)) 32 [(0, .ref (g.2.2.1 0)), (2, .int x2), (3, .int x3), (4, .int x4), (5, .int x5)] [] (u, W)) (x2 : Int32) (x3 : Int32) (x4 : Int32) (x5 : Int32) (x6 : Int32) (u : MU) (h : wb_X9_longest_81 L32  Q X x2 x3 x4 x5 x6 u) : WM p l e rm_X9_longest s m args below meth c g 8 0 0 (vx_MQ below (zQi g (zPx W Q)) (zXC g (zXx W X)) args s 1 6 (zA g)) 81 [(0, .ref (g.2.2.1 0)), (2, .int x2), (3, .int x3), (4, .int x4), (5, .int x5), (6, .int x6)] [] (u, W) := by
  unfold wb_X9_longest_81 at h
  refine zm_iconst (v := 0) C dX9_longest_81 (by decide) ?_
  exact zm_sub [0, 1, 2, 3, 4, 5] rfl (vb_X9_longest_82 C hr hstk ht hL32 _ _ _ _ _ _ _ h)
def wl_X9_longest_32 (Q : Int32 → MU → Prop) (X : String → MU → Prop) : Nat → Int32 → Int32 → Int32 → Int32 → MU → Prop
  | 0, _, _, _, _, _ => False
  | n + 1, x2, x3, x4, x5, u => (((u 95 0) ≤ x5) → ((¬ x3 = (-1 : Int32)) → Q x3 u) ∧ ((x3 = (-1 : Int32)) → X "java/util/NoSuchElementException" u)) ∧ ((¬ (u 95 0) ≤ x5) → w_X7_positionAt 95 u x5 (fun r_3 => w_X9_turnOf r_3 (fun r_5 => ((¬ r_5 = x2) → wb_X9_longest_81 (fun x2' x3' x4' x5' u' => wl_X9_longest_32  Q X n x2' x3' x4' x5' u')  Q X x2 x3 x4 x5 r_3 u) ∧ ((r_5 = x2) → w_X7_outcomeOf 95 u r_3 (fun r_8 => ((¬ r_8 = (1 : Int32)) → wb_X9_longest_81 (fun x2' x3' x4' x5' u' => wl_X9_longest_32  Q X n x2' x3' x4' x5' u')  Q X x2 x3 x4 x5 r_3 u) ∧ ((r_8 = (1 : Int32)) → wb_X9_longest_82 (fun x2' x3' x4' x5' u' => wl_X9_longest_32  Q X n x2' x3' x4' x5' u')  Q X x2 x3 x4 x5 r_3 (1 : Int32) u))))))
set_option maxHeartbeats 4000000 in
set_option maxRecDepth 100000 in
theorem vl_X9_longest_32 {p : Program} {l : Launch} {e : Env} {s : State} {m : MethodId} {args : Array Value} {below : List Frame} {meth : Method} {c : Code} {g : GE} {W : MU × ((Nat → Int64) × (Nat → UInt64))} {Q : Int32 → MU → Prop} {X : String → MU → Prop} (C : zCx p l s m args meth c g RX9 cX9_longest 8) (hr : meth.sig.returnType = (Option.some Jvm.ClassFile.FieldType.int)) (hstk : l.stackTraces = false) (ht : ∀ x ∈ c.exceptionTable.toList, False) : ∀ (n : Nat) (x2 : Int32) (x3 : Int32) (x4 : Int32) (x5 : Int32) (u : MU) , wl_X9_longest_32   Q X n x2 x3 x4 x5 u → WM p l e rm_X9_longest s m args below meth c g 8 0 0 (vx_MQ below (zQi g (zPx W Q)) (zXC g (zXx W X)) args s 1 6 (zA g)) 32 [(0, .ref (g.2.2.1 0)), (2, .int x2), (3, .int x3), (4, .int x4), (5, .int x5)] [] (u, W) := by
  intro n
  induction n with
  | zero => intro _ _ _ _ _ h; exact h.elim
  | succ n ih =>
    intro x2 x3 x4 x5 u h
    unfold wl_X9_longest_32 at h
    refine zm_iload C dX9_longest_32 4 rfl ?_
    refine zm_aload_n C dX9_longest_34 rfl 0 rfl ?_
    refine gf_RX9_39 (k1 := 95) C kd_0 rfl dX9_longest_35 ?_
    refine gf_RX9_228 C kd_95 dX9_longest_38 ?_
    refine zm_icmp_ge (tgt := 123) C dX9_longest_41 (by decide) (fun hc_1 => ?_) (fun hc_1 => ?_)
    · have h := h.1 hc_1
      refine zm_iload_n C dX9_longest_123 rfl 2 rfl ?_
      refine zm_iconst (v := -1) C dX9_longest_124 (by decide) ?_
      refine zm_icmp_ne (tgt := 138) C dX9_longest_125 (by decide) (fun hc_2 => ?_) (fun hc_2 => ?_)
      · have h := h.1 hc_2
        refine zm_iload_n C dX9_longest_138 rfl 2 rfl ?_
        refine zm_vx (by decide) (by decide) ?_
        exact zm_iret C hr dX9_longest_139 ⟨_, rfl, h⟩
      · have h := h.2 hc_2
        exact zm_throwN C hstk wd_875 wd_22 (is := 234) (text := "none is won") (by decide) hat_NoSuchElementException_132 hgd_NoSuchElementException_132_128 dX9_longest_128 dX9_longest_131 dX9_longest_132 dX9_longest_134 dX9_longest_137 ht (Nat.le_of_ble_eq_true rfl) (Nat.le_of_ble_eq_true rfl) (Nat.le_of_ble_eq_true rfl) (Nat.le_of_ble_eq_true rfl) (Nat.le_of_ble_eq_true rfl) (Nat.le_of_ble_eq_true rfl) ⟨_, rfl, h⟩
    · have h := h.2 hc_1
      refine zm_aload_n C dX9_longest_44 rfl 0 rfl ?_
      refine gf_RX9_39 (k1 := 95) C kd_0 rfl dX9_longest_45 ?_
      refine zm_iload C dX9_longest_48 4 rfl ?_
      refine zm_ci (zr_V (As := [.int x5]) (rest := []) C (c_X7_positionAt l g u W 95 kd_95 x5 h) wd_683 wd_684 wd_685 wd_6 wd_686 hy_X7_positionAt rfl rfl ⟨by decide, by decide⟩ ⟨by decide, by decide⟩ (ci := 7) (by decide) (zCell_k kd_95) rfl rfl rfl rfl (Nat.le_of_ble_eq_true rfl) dX9_longest_50) (fun r_3 M1 hq => ?_)
      obtain ⟨rfl, h⟩ := hq
      refine zm_istore (lv' := [(6, .int r_3), (0, .ref (g.2.2.1 0)), (2, .int x2), (3, .int x3), (4, .int x4), (5, .int x5)]) C dX9_longest_53 (by decide) rfl ?_
      refine zm_iload C dX9_longest_55 0 rfl ?_
      refine zm_ci (zr_S (As := [.int r_3]) (rest := []) C (c_X9_turnOf l g (u, W) r_3 h) wd_674 wd_629 wd_1 wd_630 hy_X9_turnOf rfl rfl ⟨by decide, by decide⟩ ⟨by decide, by decide⟩ rfl rfl (Nat.le_of_ble_eq_true rfl) dX9_longest_57) (fun r_5 M1 hq => ?_)
      obtain ⟨rfl, h⟩ := hq
      refine zm_iload_n C dX9_longest_60 rfl 2 rfl ?_
      refine zm_icmp_ne (tgt := 81) C dX9_longest_61 (by decide) (fun hc_7 => ?_) (fun hc_7 => ?_)
      · have h := h.1 hc_7
        exact zm_sub [1, 2, 3, 4, 5, 0] rfl (vb_X9_longest_81 C hr hstk ht ih _ _ _ _ _ _ h)
      · have h := h.2 hc_7
        refine zm_aload_n C dX9_longest_64 rfl 1 rfl ?_
        refine gf_RX9_39 (k1 := 95) C kd_0 rfl dX9_longest_65 ?_
        refine zm_iload C dX9_longest_68 0 rfl ?_
        refine zm_ci (zr_V (As := [.int r_3]) (rest := []) C (c_X7_outcomeOf l g u W 95 kd_95 r_3 h) wd_970 wd_692 wd_693 wd_6 wd_694 hy_X7_outcomeOf rfl rfl ⟨by decide, by decide⟩ ⟨by decide, by decide⟩ (ci := 7) (by decide) (zCell_k kd_95) rfl rfl rfl rfl (Nat.le_of_ble_eq_true rfl) dX9_longest_70) (fun r_8 M1 hq => ?_)
        obtain ⟨rfl, h⟩ := hq
        refine zm_iconst (v := 1) C dX9_longest_73 (by decide) ?_
        refine zm_icmp_ne (tgt := 81) C dX9_longest_74 (by decide) (fun hc_10 => ?_) (fun hc_10 => ?_)
        · have h := h.1 hc_10
          exact zm_sub [1, 2, 3, 4, 5, 0] rfl (vb_X9_longest_81 C hr hstk ht ih _ _ _ _ _ _ h)
        · have h := h.2 hc_10
          refine zm_iconst (v := 1) C dX9_longest_77 (by decide) ?_
          refine zm_goto (tgt := 82) C dX9_longest_78 (by decide) ?_
          exact zm_sub [1, 2, 3, 4, 5, 0] rfl (vb_X9_longest_82 C hr hstk ht ih _ _ _ _ _ _ _ h)
def wb_X9_longest_23 (Q : Int32 → MU → Prop) (X : String → MU → Prop) (s0 : Int32) (u : MU) : Prop := ∃ nn, wl_X9_longest_32   Q X nn s0 (-1 : Int32) (-1 : Int32) (0 : Int32) u
set_option maxHeartbeats 4000000 in
set_option maxRecDepth 100000 in
theorem vb_X9_longest_23 {p : Program} {l : Launch} {e : Env} {s : State} {m : MethodId} {args : Array Value} {below : List Frame} {meth : Method} {c : Code} {g : GE} {W : MU × ((Nat → Int64) × (Nat → UInt64))} {Q : Int32 → MU → Prop} {X : String → MU → Prop} (C : zCx p l s m args meth c g RX9 cX9_longest 8) (hr : meth.sig.returnType = (Option.some Jvm.ClassFile.FieldType.int)) (hstk : l.stackTraces = false) (ht : ∀ x ∈ c.exceptionTable.toList, False) (s0 : Int32) (u : MU) (h : wb_X9_longest_23   Q X s0 u) : WM p l e rm_X9_longest s m args below meth c g 8 0 0 (vx_MQ below (zQi g (zPx W Q)) (zXC g (zXx W X)) args s 1 6 (zA g)) 23 [(0, .ref (g.2.2.1 0))] [.int s0] (u, W) := by
  unfold wb_X9_longest_23 at h
  refine zm_istore_n (lv' := [(2, .int s0), (0, .ref (g.2.2.1 0))]) C dX9_longest_23 rfl (by decide) rfl ?_
  refine zm_iconst (v := -1) C dX9_longest_24 (by decide) ?_
  refine zm_istore_n (lv' := [(3, .int (-1 : Int32)), (2, .int s0), (0, .ref (g.2.2.1 0))]) C dX9_longest_25 rfl (by decide) rfl ?_
  refine zm_iconst (v := -1) C dX9_longest_26 (by decide) ?_
  refine zm_istore (lv' := [(4, .int (-1 : Int32)), (3, .int (-1 : Int32)), (2, .int s0), (0, .ref (g.2.2.1 0))]) C dX9_longest_27 (by decide) rfl ?_
  refine zm_iconst (v := 0) C dX9_longest_29 (by decide) ?_
  refine zm_istore (lv' := [(5, .int (0 : Int32)), (4, .int (-1 : Int32)), (3, .int (-1 : Int32)), (2, .int s0), (0, .ref (g.2.2.1 0))]) C dX9_longest_30 (by decide) rfl ?_
  obtain ⟨nn, h⟩ := h
  exact zm_sub [4, 3, 2, 1, 0] rfl (vl_X9_longest_32 C hr hstk ht  nn _ _ _ _ _ h)
def w_X9_longest (x1 : Int32) (u : MU) (Q : Int32 → MU → Prop) (X : String → MU → Prop) : Prop := w_X7_solve 95 2 u (fun u_2 => ((x1 = 0) → wb_X9_longest_23   Q X (0 : Int32) u_2) ∧ ((¬ x1 = 0) → wb_X9_longest_23   Q X (1 : Int32) u_2))
set_option maxHeartbeats 4000000 in
set_option maxRecDepth 100000 in
theorem c_X9_longest (l : Launch) (hstk : l.stackTraces = false) (g : GE) (u : MU) (W : MU × ((Nat → Int64) × (Nat → UInt64))) (x1 : Int32) {Q : Int32 → MU → Prop} {X : String → MU → Prop} (h : w_X9_longest x1 u Q X) : vx_Met l yX9_longest (.code yX9_longest cX9_longest 8 (Option.some Jvm.ClassFile.FieldType.int) :: TB) rm_X9_longest (zPc g (u, W) [.ref (g.2.2.1 0), .int x1]) (zQi g (zPx W Q)) (zXC g (zXx W X)) 1 6 (zA g) := by
  unfold w_X9_longest at h
  refine zMetX (own := RX9) [(0, .ref (g.2.2.1 0)), (1, .int x1)] (by decide +kernel) rfl (Nat.le_of_ble_eq_true rfl) rfl (fun p e s m args below meth c C hr ht => ?_)
  refine zm_aload_n C dX9_longest_0 rfl 0 rfl ?_
  refine gf_RX9_39 (k1 := 95) C kd_0 rfl dX9_longest_1 ?_
  refine zm_aload_n C dX9_longest_4 rfl 0 rfl ?_
  refine gf_RX9_10 (k1 := 1) C kd_0 rfl dX9_longest_5 ?_
  refine gf_RX9_138 (k1 := 2) C kd_1 rfl dX9_longest_8 ?_
  refine zm_cv (zr_V (As := [.ref (g.2.2.1 2)]) (rest := []) C (c_X7_solve l g u W 95 2 kd_95 kd_2 h) wd_594 wd_595 wd_596 wd_6 wd_597 hy_X7_solve rfl rfl ⟨by decide, by decide⟩ ⟨by decide, by decide⟩ (ci := 7) (by decide) (zCell_k kd_95) rfl rfl rfl rfl (Nat.le_of_ble_eq_true rfl) dX9_longest_11) (fun M1 hq => ?_)
  obtain ⟨u_2, rfl, h⟩ := hq
  refine zm_iload_n C dX9_longest_14 rfl 1 rfl ?_
  refine zm_if_eq (tgt := 22) C dX9_longest_15 (by decide) (fun hc_3 => ?_) (fun hc_3 => ?_)
  · have h := h.1 hc_3
    refine zm_iconst (v := 0) C dX9_longest_22 (by decide) ?_
    exact zm_sub [0] rfl (vb_X9_longest_23 C hr hstk ht  _ _ h)
  · have h := h.2 hc_3
    refine zm_iconst (v := 1) C dX9_longest_18 (by decide) ?_
    refine zm_goto (tgt := 23) C dX9_longest_19 (by decide) ?_
    exact zm_sub [0] rfl (vb_X9_longest_23 C hr hstk ht  _ _ h)
abbrev rm_X9_positionsIn : Room := { frames := 4, cells := 0, slots := 0, locals := 107 }
def wb_X9_positionsIn_51 (L18 : Int32 → Int32 → Int32 → MU → Prop) (Q : Int32 → MU → Prop) (x1 : Int32) (x2 : Int32) (x3 : Int32) (u : MU) : Prop := ∀ x3_1, x3_1 = x3 + (1 : Int32) → L18 x1 x2 x3_1 u
set_option maxHeartbeats 4000000 in
set_option maxRecDepth 100000 in
theorem vb_X9_positionsIn_51 {p : Program} {l : Launch} {e : Env} {s : State} {m : MethodId} {args : Array Value} {below : List Frame} {meth : Method} {c : Code} {g : GE} {W : MU × ((Nat → Int64) × (Nat → UInt64))} {Q : Int32 → MU → Prop} (C : zCx p l s m args meth c g RX9 cX9_positionsIn 4) (hr : meth.sig.returnType = (Option.some Jvm.ClassFile.FieldType.int)) {L18 : Int32 → Int32 → Int32 → MU → Prop} (hL18 : ∀ (x1 : Int32) (x2 : Int32) (x3 : Int32) (u : MU), L18 x1 x2 x3 u → WM p l e rm_X9_positionsIn s m args below meth c g 4 0 0 (MQ below (zQi g (zPx W Q)) args s 0 0 (zA g)) 18 [(0, .ref (g.2.2.1 0)), (1, .int x1), (2, .int x2), (3, .int x3)] [] (u, W)) (x1 : Int32) (x2 : Int32) (x3 : Int32) (u : MU) (h : wb_X9_positionsIn_51 L18  Q x1 x2 x3 u) : WM p l e rm_X9_positionsIn s m args below meth c g 4 0 0 (MQ below (zQi g (zPx W Q)) args s 0 0 (zA g)) 51 [(0, .ref (g.2.2.1 0)), (1, .int x1), (2, .int x2), (3, .int x3)] [] (u, W) := by
  unfold wb_X9_positionsIn_51 at h
  obtain ⟨x3_1, hx3_1⟩ : ∃ z, z = x3 + (1 : Int32) := ⟨_, rfl⟩
  have h := h x3_1 hx3_1
  refine zm_iinc (v := x3_1) (lv' := [(3, .int x3_1), (0, .ref (g.2.2.1 0)), (1, .int x1), (2, .int x2)]) C dX9_positionsIn_51 3 rfl (by rw [hx3_1]; rfl) (by decide) rfl ?_
  refine zm_goto (tgt := 18) C dX9_positionsIn_54 (by decide) ?_
  exact zm_sub [1, 2, 3, 0] rfl (hL18 _ _ _ _ h)
def wl_X9_positionsIn_18 (Q : Int32 → MU → Prop) : Nat → Int32 → Int32 → Int32 → MU → Prop
  | 0, _, _, _, _ => False
  | n + 1, x1, x2, x3, u => (((u 95 0) ≤ x3) → Q x2 u) ∧ ((¬ (u 95 0) ≤ x3) → w_X7_positionAt 95 u x3 (fun r_2 => w_X7_inMoves 95 u r_2 (fun r_4 => ((¬ r_4 = x1) → wb_X9_positionsIn_51 (fun x1' x2' x3' u' => wl_X9_positionsIn_18  Q n x1' x2' x3' u')  Q x1 x2 x3 u) ∧ ((r_4 = x1) → ∀ x2_7, x2_7 = x2 + (1 : Int32) → wb_X9_positionsIn_51 (fun x1' x2' x3' u' => wl_X9_positionsIn_18  Q n x1' x2' x3' u')  Q x1 x2_7 x3 u))))
set_option maxHeartbeats 4000000 in
set_option maxRecDepth 100000 in
theorem vl_X9_positionsIn_18 {p : Program} {l : Launch} {e : Env} {s : State} {m : MethodId} {args : Array Value} {below : List Frame} {meth : Method} {c : Code} {g : GE} {W : MU × ((Nat → Int64) × (Nat → UInt64))} {Q : Int32 → MU → Prop} (C : zCx p l s m args meth c g RX9 cX9_positionsIn 4) (hr : meth.sig.returnType = (Option.some Jvm.ClassFile.FieldType.int)) : ∀ (n : Nat) (x1 : Int32) (x2 : Int32) (x3 : Int32) (u : MU) , wl_X9_positionsIn_18   Q n x1 x2 x3 u → WM p l e rm_X9_positionsIn s m args below meth c g 4 0 0 (MQ below (zQi g (zPx W Q)) args s 0 0 (zA g)) 18 [(0, .ref (g.2.2.1 0)), (1, .int x1), (2, .int x2), (3, .int x3)] [] (u, W) := by
  intro n
  induction n with
  | zero => intro _ _ _ _ h; exact h.elim
  | succ n ih =>
    intro x1 x2 x3 u h
    unfold wl_X9_positionsIn_18 at h
    refine zm_iload_n C dX9_positionsIn_18 rfl 3 rfl ?_
    refine zm_aload_n C dX9_positionsIn_19 rfl 0 rfl ?_
    refine gf_RX9_39 (k1 := 95) C kd_0 rfl dX9_positionsIn_20 ?_
    refine gf_RX9_228 C kd_95 dX9_positionsIn_23 ?_
    refine zm_icmp_ge (tgt := 57) C dX9_positionsIn_26 (by decide) (fun hc_1 => ?_) (fun hc_1 => ?_)
    · have h := h.1 hc_1
      refine zm_iload_n C dX9_positionsIn_57 rfl 2 rfl ?_
      exact zm_iret C hr dX9_positionsIn_58 ⟨_, rfl, h⟩
    · have h := h.2 hc_1
      refine zm_aload_n C dX9_positionsIn_29 rfl 0 rfl ?_
      refine gf_RX9_39 (k1 := 95) C kd_0 rfl dX9_positionsIn_30 ?_
      refine zm_aload_n C dX9_positionsIn_33 rfl 0 rfl ?_
      refine gf_RX9_39 (k1 := 95) C kd_0 rfl dX9_positionsIn_34 ?_
      refine zm_iload_n C dX9_positionsIn_37 rfl 3 rfl ?_
      refine zm_ci (zr_V (As := [.int x3]) (rest := [.ref (g.2.2.1 95)]) C (c_X7_positionAt l g u W 95 kd_95 x3 h) wd_683 wd_684 wd_685 wd_6 wd_686 hy_X7_positionAt rfl rfl ⟨by decide, by decide⟩ ⟨by decide, by decide⟩ (ci := 7) (by decide) (zCell_k kd_95) rfl rfl rfl rfl (Nat.le_of_ble_eq_true rfl) dX9_positionsIn_38) (fun r_2 M1 hq => ?_)
      obtain ⟨rfl, h⟩ := hq
      refine zm_ci (zr_V (As := [.int r_2]) (rest := []) C (c_X7_inMoves l g u W 95 kd_95 r_2 h) wd_839 wd_840 wd_841 wd_6 wd_842 hy_X7_inMoves rfl rfl ⟨by decide, by decide⟩ ⟨by decide, by decide⟩ (ci := 7) (by decide) (zCell_k kd_95) rfl rfl rfl rfl (Nat.le_of_ble_eq_true rfl) dX9_positionsIn_41) (fun r_4 M1 hq => ?_)
      obtain ⟨rfl, h⟩ := hq
      refine zm_iload_n C dX9_positionsIn_44 rfl 1 rfl ?_
      refine zm_icmp_ne (tgt := 51) C dX9_positionsIn_45 (by decide) (fun hc_6 => ?_) (fun hc_6 => ?_)
      · have h := h.1 hc_6
        exact zm_sub [0, 1, 2, 3] rfl (vb_X9_positionsIn_51 C hr ih _ _ _ _ h)
      · have h := h.2 hc_6
        obtain ⟨x2_7, hx2_7⟩ : ∃ z, z = x2 + (1 : Int32) := ⟨_, rfl⟩
        have h := h x2_7 hx2_7
        refine zm_iinc (v := x2_7) (lv' := [(2, .int x2_7), (0, .ref (g.2.2.1 0)), (1, .int x1), (3, .int x3)]) C dX9_positionsIn_48 2 rfl (by rw [hx2_7]; rfl) (by decide) rfl ?_
        exact zm_sub [1, 2, 0, 3] rfl (vb_X9_positionsIn_51 C hr ih _ _ _ _ h)
def w_X9_positionsIn (x1 : Int32) (u : MU) (Q : Int32 → MU → Prop) : Prop := w_X7_solve 95 2 u (fun u_2 => ∃ nn, wl_X9_positionsIn_18   Q nn x1 (0 : Int32) (0 : Int32) u_2)
set_option maxHeartbeats 4000000 in
set_option maxRecDepth 100000 in
theorem c_X9_positionsIn (l : Launch) (g : GE) (u : MU) (W : MU × ((Nat → Int64) × (Nat → UInt64))) (x1 : Int32) {Q : Int32 → MU → Prop} (h : w_X9_positionsIn x1 u Q) : Met l yX9_positionsIn (.code yX9_positionsIn cX9_positionsIn 4 (Option.some Jvm.ClassFile.FieldType.int) :: TB) rm_X9_positionsIn (zPc g (u, W) [.ref (g.2.2.1 0), .int x1]) (zQi g (zPx W Q)) 0 0 (zA g) := by
  unfold w_X9_positionsIn at h
  refine zMet (own := RX9) [(0, .ref (g.2.2.1 0)), (1, .int x1)] (by decide +kernel) rfl (Nat.le_of_ble_eq_true rfl) rfl (fun p e s m args below meth c C hr => ?_)
  refine zm_aload_n C dX9_positionsIn_0 rfl 0 rfl ?_
  refine gf_RX9_39 (k1 := 95) C kd_0 rfl dX9_positionsIn_1 ?_
  refine zm_aload_n C dX9_positionsIn_4 rfl 0 rfl ?_
  refine gf_RX9_10 (k1 := 1) C kd_0 rfl dX9_positionsIn_5 ?_
  refine gf_RX9_138 (k1 := 2) C kd_1 rfl dX9_positionsIn_8 ?_
  refine zm_cv (zr_V (As := [.ref (g.2.2.1 2)]) (rest := []) C (c_X7_solve l g u W 95 2 kd_95 kd_2 h) wd_594 wd_595 wd_596 wd_6 wd_597 hy_X7_solve rfl rfl ⟨by decide, by decide⟩ ⟨by decide, by decide⟩ (ci := 7) (by decide) (zCell_k kd_95) rfl rfl rfl rfl (Nat.le_of_ble_eq_true rfl) dX9_positionsIn_11) (fun M1 hq => ?_)
  obtain ⟨u_2, rfl, h⟩ := hq
  refine zm_iconst (v := 0) C dX9_positionsIn_14 (by decide) ?_
  refine zm_istore_n (lv' := [(2, .int (0 : Int32)), (0, .ref (g.2.2.1 0)), (1, .int x1)]) C dX9_positionsIn_15 rfl (by decide) rfl ?_
  refine zm_iconst (v := 0) C dX9_positionsIn_16 (by decide) ?_
  refine zm_istore_n (lv' := [(3, .int (0 : Int32)), (2, .int (0 : Int32)), (0, .ref (g.2.2.1 0)), (1, .int x1)]) C dX9_positionsIn_17 rfl (by decide) rfl ?_
  obtain ⟨nn, h⟩ := h
  exact zm_sub [2, 3, 1, 0] rfl (vl_X9_positionsIn_18 C hr  nn _ _ _ _ h)
abbrev rm_X9_wonIn : Room := { frames := 6, cells := 1, slots := 6, locals := 130 }
def w_X9_wonIn (x1 : Int32) (u : MU) (Q : Int32 → MU → Prop) (X : String → MU → Prop) : Prop := ((0 ≤ x1) → w_X9_positionsIn x1 u (fun r_2 u_3 => Q r_2 u_3)) ∧ ((¬ 0 ≤ x1) → X "java/lang/IllegalArgumentException" u)
set_option maxHeartbeats 4000000 in
set_option maxRecDepth 100000 in
theorem c_X9_wonIn (l : Launch) (hstk : l.stackTraces = false) (g : GE) (u : MU) (W : MU × ((Nat → Int64) × (Nat → UInt64))) (x1 : Int32) {Q : Int32 → MU → Prop} {X : String → MU → Prop} (h : w_X9_wonIn x1 u Q X) : vx_Met l yX9_wonIn (.code yX9_wonIn cX9_wonIn 2 (Option.some Jvm.ClassFile.FieldType.int) :: TB) rm_X9_wonIn (zPc g (u, W) [.ref (g.2.2.1 0), .int x1]) (zQi g (zPx W Q)) (zXC g (zXx W X)) 1 6 (zA g) := by
  unfold w_X9_wonIn at h
  refine zMetX (own := RX9) [(0, .ref (g.2.2.1 0)), (1, .int x1)] (by decide +kernel) rfl (Nat.le_of_ble_eq_true rfl) rfl (fun p e s m args below meth c C hr ht => ?_)
  refine zm_iload_n C dX9_wonIn_0 rfl 1 rfl ?_
  refine zm_if_ge (tgt := 14) C dX9_wonIn_1 (by decide) (fun hc_1 => ?_) (fun hc_1 => ?_)
  · have h := h.1 hc_1
    refine zm_aload_n C dX9_wonIn_14 rfl 0 rfl ?_
    refine zm_iload_n C dX9_wonIn_15 rfl 1 rfl ?_
    refine zm_ci (zr_V (As := [.int x1]) (rest := []) C (c_X9_positionsIn l g u W x1 h) wd_835 wd_837 wp_26 wd_1 wd_838 hy_X9_positionsIn rfl rfl ⟨by decide, by decide⟩ ⟨by decide, by decide⟩ (ci := 9) (by decide) (zCell_k kd_0) rfl rfl rfl rfl (Nat.le_of_ble_eq_true rfl) dX9_wonIn_16) (fun r_2 M1 hq => ?_)
    obtain ⟨u_3, rfl, h⟩ := hq
    refine zm_vx (by decide) (by decide) ?_
    exact zm_iret C hr dX9_wonIn_19 ⟨_, rfl, h⟩
  · have h := h.2 hc_1
    exact zm_throw (names := ["java/lang/RuntimeException", "java/lang/Exception"]) C hstk fit_IllegalArgumentException fit_names wd_560 wd_18 (is := 236) (text := "the number is below 0") (by decide) hat_IllegalArgumentException_155 hgd_IllegalArgumentException_155_151 dX9_wonIn_4 dX9_wonIn_7 dX9_wonIn_8 dX9_wonIn_10 dX9_wonIn_13 ht (Nat.le_of_ble_eq_true rfl) (Nat.le_of_ble_eq_true rfl) (Nat.le_of_ble_eq_true rfl) (Nat.le_of_ble_eq_true rfl) (Nat.le_of_ble_eq_true rfl) (Nat.le_of_ble_eq_true rfl) ⟨_, rfl, h⟩
abbrev rm_X9_wouldChange : Room := { frames := 6, cells := 1, slots := 6, locals := 242 }
def wb_X9_wouldChange_28 (Q : Int32 → MU → Prop) (X : String → MU → Prop) (u : MU) : Prop := X "java/lang/IndexOutOfBoundsException" u
set_option maxHeartbeats 4000000 in
set_option maxRecDepth 100000 in
theorem vb_X9_wouldChange_28 {p : Program} {l : Launch} {e : Env} {s : State} {m : MethodId} {args : Array Value} {below : List Frame} {meth : Method} {c : Code} {g : GE} {W : MU × ((Nat → Int64) × (Nat → UInt64))} {Q : Int32 → MU → Prop} {X : String → MU → Prop} (C : zCx p l s m args meth c g RX9 cX9_wouldChange 6) (hr : meth.sig.returnType = (Option.some Jvm.ClassFile.FieldType.int)) (hstk : l.stackTraces = false) (ht : ∀ x ∈ c.exceptionTable.toList, False) (u : MU) (h : wb_X9_wouldChange_28   Q X  u) : WM p l e rm_X9_wouldChange s m args below meth c g 6 0 0 (vx_MQ below (zQi g (zPx W Q)) (zXC g (zXx W X)) args s 1 6 (zA g)) 28 [] [] (u, W) := by
  unfold wb_X9_wouldChange_28 at h
  exact zm_throw (names := ["java/lang/RuntimeException", "java/lang/Exception"]) C hstk fit_IndexOutOfBoundsException fit_names wd_547 wd_23 (is := 247) (text := "there is no such burrow") (by decide) hat_IndexOutOfBoundsException_249 hgd_IndexOutOfBoundsException_249_245 dX9_wouldChange_28 dX9_wouldChange_31 dX9_wouldChange_32 dX9_wouldChange_34 dX9_wouldChange_37 ht (Nat.le_of_ble_eq_true rfl) (Nat.le_of_ble_eq_true rfl) (Nat.le_of_ble_eq_true rfl) (Nat.le_of_ble_eq_true rfl) (Nat.le_of_ble_eq_true rfl) (Nat.le_of_ble_eq_true rfl) ⟨_, rfl, h⟩
def wb_X9_wouldChange_164 (L117 : Int32 → Int32 → MU → Prop) (Q : Int32 → MU → Prop) (X : String → MU → Prop) (x3 : Int32) (x4 : Int32) (u : MU) : Prop := ∀ x4_1, x4_1 = x4 + (1 : Int32) → L117 x3 x4_1 u
set_option maxHeartbeats 4000000 in
set_option maxRecDepth 100000 in
theorem vb_X9_wouldChange_164 {p : Program} {l : Launch} {e : Env} {s : State} {m : MethodId} {args : Array Value} {below : List Frame} {meth : Method} {c : Code} {g : GE} {W : MU × ((Nat → Int64) × (Nat → UInt64))} {Q : Int32 → MU → Prop} {X : String → MU → Prop} (C : zCx p l s m args meth c g RX9 cX9_wouldChange 6) (hr : meth.sig.returnType = (Option.some Jvm.ClassFile.FieldType.int)) (hstk : l.stackTraces = false) (ht : ∀ x ∈ c.exceptionTable.toList, False) {L117 : Int32 → Int32 → MU → Prop} (hL117 : ∀ (x3 : Int32) (x4 : Int32) (u : MU), L117 x3 x4 u → WM p l e rm_X9_wouldChange s m args below meth c g 6 0 0 (vx_MQ below (zQi g (zPx W Q)) (zXC g (zXx W X)) args s 1 6 (zA g)) 117 [(0, .ref (g.2.2.1 0)), (3, .int x3), (4, .int x4)] [] (u, W)) (x3 : Int32) (x4 : Int32) (u : MU) (h : wb_X9_wouldChange_164 L117  Q X x3 x4 u) : WM p l e rm_X9_wouldChange s m args below meth c g 6 0 0 (vx_MQ below (zQi g (zPx W Q)) (zXC g (zXx W X)) args s 1 6 (zA g)) 164 [(0, .ref (g.2.2.1 0)), (3, .int x3), (4, .int x4)] [] (u, W) := by
  unfold wb_X9_wouldChange_164 at h
  obtain ⟨x4_1, hx4_1⟩ : ∃ z, z = x4 + (1 : Int32) := ⟨_, rfl⟩
  have h := h x4_1 hx4_1
  refine zm_iinc (v := x4_1) (lv' := [(4, .int x4_1), (0, .ref (g.2.2.1 0)), (3, .int x3)]) C dX9_wouldChange_164 2 rfl (by rw [hx4_1]; rfl) (by decide) rfl ?_
  refine zm_goto (tgt := 117) C dX9_wouldChange_167 (by decide) ?_
  exact zm_sub [1, 2, 0] rfl (hL117 _ _ _ h)
def wl_X9_wouldChange_117 (Q : Int32 → MU → Prop) (X : String → MU → Prop) : Nat → Int32 → Int32 → MU → Prop
  | 0, _, _, _ => False
  | n + 1, x3, x4, u => (((u 95 0) ≤ x4) → Q x3 u) ∧ ((¬ (u 95 0) ≤ x4) → w_X7_positionAt 95 u x4 (fun r_2 => w_X7_outcomeOf 95 u r_2 (fun r_4 => w_X7_outcomeOf 100 u r_2 (fun r_6 => ((r_4 = r_6) → wb_X9_wouldChange_164 (fun x3' x4' u' => wl_X9_wouldChange_117  Q X n x3' x4' u')  Q X x3 x4 u) ∧ ((¬ r_4 = r_6) → ∀ x3_9, x3_9 = x3 + (1 : Int32) → wb_X9_wouldChange_164 (fun x3' x4' u' => wl_X9_wouldChange_117  Q X n x3' x4' u')  Q X x3_9 x4 u)))))
set_option maxHeartbeats 4000000 in
set_option maxRecDepth 100000 in
theorem vl_X9_wouldChange_117 {p : Program} {l : Launch} {e : Env} {s : State} {m : MethodId} {args : Array Value} {below : List Frame} {meth : Method} {c : Code} {g : GE} {W : MU × ((Nat → Int64) × (Nat → UInt64))} {Q : Int32 → MU → Prop} {X : String → MU → Prop} (C : zCx p l s m args meth c g RX9 cX9_wouldChange 6) (hr : meth.sig.returnType = (Option.some Jvm.ClassFile.FieldType.int)) (hstk : l.stackTraces = false) (ht : ∀ x ∈ c.exceptionTable.toList, False) : ∀ (n : Nat) (x3 : Int32) (x4 : Int32) (u : MU) , wl_X9_wouldChange_117   Q X n x3 x4 u → WM p l e rm_X9_wouldChange s m args below meth c g 6 0 0 (vx_MQ below (zQi g (zPx W Q)) (zXC g (zXx W X)) args s 1 6 (zA g)) 117 [(0, .ref (g.2.2.1 0)), (3, .int x3), (4, .int x4)] [] (u, W) := by
  intro n
  induction n with
  | zero => intro _ _ _ h; exact h.elim
  | succ n ih =>
    intro x3 x4 u h
    unfold wl_X9_wouldChange_117 at h
    refine zm_iload C dX9_wouldChange_117 2 rfl ?_
    refine zm_aload_n C dX9_wouldChange_119 rfl 0 rfl ?_
    refine gf_RX9_39 (k1 := 95) C kd_0 rfl dX9_wouldChange_120 ?_
    refine gf_RX9_228 C kd_95 dX9_wouldChange_123 ?_
    refine zm_icmp_ge (tgt := 170) C dX9_wouldChange_126 (by decide) (fun hc_1 => ?_) (fun hc_1 => ?_)
    · have h := h.1 hc_1
      refine zm_iload_n C dX9_wouldChange_170 rfl 1 rfl ?_
      refine zm_vx (by decide) (by decide) ?_
      exact zm_iret C hr dX9_wouldChange_171 ⟨_, rfl, h⟩
    · have h := h.2 hc_1
      refine zm_aload_n C dX9_wouldChange_129 rfl 0 rfl ?_
      refine gf_RX9_39 (k1 := 95) C kd_0 rfl dX9_wouldChange_130 ?_
      refine zm_iload C dX9_wouldChange_133 2 rfl ?_
      refine zm_ci (zr_V (As := [.int x4]) (rest := []) C (c_X7_positionAt l g u W 95 kd_95 x4 h) wd_683 wd_684 wd_685 wd_6 wd_686 hy_X7_positionAt rfl rfl ⟨by decide, by decide⟩ ⟨by decide, by decide⟩ (ci := 7) (by decide) (zCell_k kd_95) rfl rfl rfl rfl (Nat.le_of_ble_eq_true rfl) dX9_wouldChange_135) (fun r_2 M1 hq => ?_)
      obtain ⟨rfl, h⟩ := hq
      refine zm_istore (lv' := [(5, .int r_2), (0, .ref (g.2.2.1 0)), (3, .int x3), (4, .int x4)]) C dX9_wouldChange_138 (by decide) rfl ?_
      refine zm_aload_n C dX9_wouldChange_140 rfl 1 rfl ?_
      refine gf_RX9_39 (k1 := 95) C kd_0 rfl dX9_wouldChange_141 ?_
      refine zm_iload C dX9_wouldChange_144 0 rfl ?_
      refine zm_ci (zr_V (As := [.int r_2]) (rest := []) C (c_X7_outcomeOf l g u W 95 kd_95 r_2 h) wd_970 wd_692 wd_693 wd_6 wd_694 hy_X7_outcomeOf rfl rfl ⟨by decide, by decide⟩ ⟨by decide, by decide⟩ (ci := 7) (by decide) (zCell_k kd_95) rfl rfl rfl rfl (Nat.le_of_ble_eq_true rfl) dX9_wouldChange_146) (fun r_4 M1 hq => ?_)
      obtain ⟨rfl, h⟩ := hq
      refine zm_aload_n C dX9_wouldChange_149 rfl 1 rfl ?_
      refine gf_RX9_43 (k1 := 100) C kd_0 rfl dX9_wouldChange_150 ?_
      refine zm_iload C dX9_wouldChange_153 0 rfl ?_
      refine zm_ci (zr_V (As := [.int r_2]) (rest := [.int r_4]) C (c_X7_outcomeOf l g u W 100 kd_100 r_2 h) wd_970 wd_692 wd_693 wd_6 wd_694 hy_X7_outcomeOf rfl rfl ⟨by decide, by decide⟩ ⟨by decide, by decide⟩ (ci := 7) (by decide) (zCell_k kd_100) rfl rfl rfl rfl (Nat.le_of_ble_eq_true rfl) dX9_wouldChange_155) (fun r_6 M1 hq => ?_)
      obtain ⟨rfl, h⟩ := hq
      refine zm_icmp_eq (tgt := 164) C dX9_wouldChange_158 (by decide) (fun hc_8 => ?_) (fun hc_8 => ?_)
      · have h := h.1 hc_8
        exact zm_sub [1, 2, 3] rfl (vb_X9_wouldChange_164 C hr hstk ht ih _ _ _ h)
      · have h := h.2 hc_8
        obtain ⟨x3_9, hx3_9⟩ : ∃ z, z = x3 + (1 : Int32) := ⟨_, rfl⟩
        have h := h x3_9 hx3_9
        refine zm_iinc (v := x3_9) (lv' := [(3, .int x3_9), (5, .int r_2), (0, .ref (g.2.2.1 0)), (4, .int x4)]) C dX9_wouldChange_161 2 rfl (by rw [hx3_9]; rfl) (by decide) rfl ?_
        exact zm_sub [2, 0, 3] rfl (vb_X9_wouldChange_164 C hr hstk ht ih _ _ _ h)
def w_X9_wouldChange (x1 : Int32) (x2 : Int32) (u : MU) (Q : Int32 → MU → Prop) (X : String → MU → Prop) : Prop := w_X1_has 2 u x1 (fun r_1 => ((r_1 = 0) → wb_X9_wouldChange_28   Q X u) ∧ ((¬ r_1 = 0) → w_X1_has 2 u x2 (fun r_4 => ((¬ r_4 = 0) → ((¬ x1 = x2) → w_X1_become 91 2 u (fun u_9 => w_X1_turnNear 91 x1 x2 u_9 (fun u_11 => w_X9_newVersion  u_11 (fun r_12 u_13 => (∀ u_14, u_14 = u2 u_13 91 4 r_12 → w_X7_solve 95 2 u_14 (fun u_16 => w_X7_solve 100 91 u_16 (fun u_18 => ∃ nn, wl_X9_wouldChange_117   Q X nn (0 : Int32) (0 : Int32) u_18))))))) ∧ ((x1 = x2) → X "java/lang/IllegalArgumentException" u)) ∧ ((r_4 = 0) → wb_X9_wouldChange_28   Q X u))))
set_option maxHeartbeats 4000000 in
set_option maxRecDepth 100000 in
theorem c_X9_wouldChange (l : Launch) (hstk : l.stackTraces = false) (g : GE) (u : MU) (W : MU × ((Nat → Int64) × (Nat → UInt64))) (x1 : Int32) (x2 : Int32) {Q : Int32 → MU → Prop} {X : String → MU → Prop} (h : w_X9_wouldChange x1 x2 u Q X) : vx_Met l yX9_wouldChange (.code yX9_wouldChange cX9_wouldChange 6 (Option.some Jvm.ClassFile.FieldType.int) :: TB) rm_X9_wouldChange (zPc g (u, W) [.ref (g.2.2.1 0), .int x1, .int x2]) (zQi g (zPx W Q)) (zXC g (zXx W X)) 1 6 (zA g) := by
  unfold w_X9_wouldChange at h
  refine zMetX (own := RX9) [(0, .ref (g.2.2.1 0)), (1, .int x1), (2, .int x2)] (by decide +kernel) rfl (Nat.le_of_ble_eq_true rfl) rfl (fun p e s m args below meth c C hr ht => ?_)
  refine zm_aload_n C dX9_wouldChange_0 rfl 0 rfl ?_
  refine gf_RX9_10 (k1 := 1) C kd_0 rfl dX9_wouldChange_1 ?_
  refine gf_RX9_138 (k1 := 2) C kd_1 rfl dX9_wouldChange_4 ?_
  refine zm_iload_n C dX9_wouldChange_7 rfl 1 rfl ?_
  refine zm_ci (zr_V (As := [.int x1]) (rest := []) C (c_X1_has l g u W 2 kd_2 x1 h) wd_464 wd_465 wd_466 wd_3 wd_467 hy_X1_has rfl rfl ⟨by decide, by decide⟩ ⟨by decide, by decide⟩ (ci := 1) (by decide) (zCell_k kd_2) rfl rfl rfl rfl (Nat.le_of_ble_eq_true rfl) dX9_wouldChange_8) (fun r_1 M1 hq => ?_)
  obtain ⟨rfl, h⟩ := hq
  refine zm_if_eq (tgt := 28) C dX9_wouldChange_11 (by decide) (fun hc_3 => ?_) (fun hc_3 => ?_)
  · have h := h.1 hc_3
    exact zm_sub [] rfl (vb_X9_wouldChange_28 C hr hstk ht  _ h)
  · have h := h.2 hc_3
    refine zm_aload_n C dX9_wouldChange_14 rfl 0 rfl ?_
    refine gf_RX9_10 (k1 := 1) C kd_0 rfl dX9_wouldChange_15 ?_
    refine gf_RX9_138 (k1 := 2) C kd_1 rfl dX9_wouldChange_18 ?_
    refine zm_iload_n C dX9_wouldChange_21 rfl 2 rfl ?_
    refine zm_ci (zr_V (As := [.int x2]) (rest := []) C (c_X1_has l g u W 2 kd_2 x2 h) wd_464 wd_465 wd_466 wd_3 wd_467 hy_X1_has rfl rfl ⟨by decide, by decide⟩ ⟨by decide, by decide⟩ (ci := 1) (by decide) (zCell_k kd_2) rfl rfl rfl rfl (Nat.le_of_ble_eq_true rfl) dX9_wouldChange_22) (fun r_4 M1 hq => ?_)
    obtain ⟨rfl, h⟩ := hq
    refine zm_if_ne (tgt := 38) C dX9_wouldChange_25 (by decide) (fun hc_6 => ?_) (fun hc_6 => ?_)
    · have h := h.1 hc_6
      refine zm_iload_n C dX9_wouldChange_38 rfl 1 rfl ?_
      refine zm_iload_n C dX9_wouldChange_39 rfl 2 rfl ?_
      refine zm_icmp_ne (tgt := 53) C dX9_wouldChange_40 (by decide) (fun hc_7 => ?_) (fun hc_7 => ?_)
      · have h := h.1 hc_7
        refine zm_aload_n C dX9_wouldChange_53 rfl 0 rfl ?_
        refine gf_RX9_32 (k1 := 91) C kd_0 rfl dX9_wouldChange_54 ?_
        refine zm_aload_n C dX9_wouldChange_57 rfl 0 rfl ?_
        refine gf_RX9_10 (k1 := 1) C kd_0 rfl dX9_wouldChange_58 ?_
        refine gf_RX9_138 (k1 := 2) C kd_1 rfl dX9_wouldChange_61 ?_
        refine zm_cv (zr_V (As := [.ref (g.2.2.1 2)]) (rest := []) C (c_X1_become l g u W 91 2 kd_91 kd_2 h) wd_1084 wd_315 wd_316 wd_3 wd_317 hy_X1_become rfl rfl ⟨by decide, by decide⟩ ⟨by decide, by decide⟩ (ci := 1) (by decide) (zCell_k kd_91) rfl rfl rfl rfl (Nat.le_of_ble_eq_true rfl) dX9_wouldChange_64) (fun M1 hq => ?_)
        obtain ⟨u_9, rfl, h⟩ := hq
        refine zm_aload_n C dX9_wouldChange_67 rfl 0 rfl ?_
        refine gf_RX9_32 (k1 := 91) C kd_0 rfl dX9_wouldChange_68 ?_
        refine zm_iload_n C dX9_wouldChange_71 rfl 1 rfl ?_
        refine zm_iload_n C dX9_wouldChange_72 rfl 2 rfl ?_
        refine zm_cv (zr_V (As := [.int x1, .int x2]) (rest := []) C (c_X1_turnNear l g u_9 W 91 kd_91 x1 x2 h) wd_1085 wd_483 wd_484 wd_3 wd_485 hy_X1_turnNear rfl rfl ⟨by decide, by decide⟩ ⟨by decide, by decide⟩ (ci := 1) (by decide) (zCell_k kd_91) rfl rfl rfl rfl (Nat.le_of_ble_eq_true rfl) dX9_wouldChange_73) (fun M1 hq => ?_)
        obtain ⟨u_11, rfl, h⟩ := hq
        refine zm_aload_n C dX9_wouldChange_76 rfl 0 rfl ?_
        refine gf_RX9_32 (k1 := 91) C kd_0 rfl dX9_wouldChange_77 ?_
        refine zm_aload_n C dX9_wouldChange_80 rfl 0 rfl ?_
        refine zm_ci (zr_V (As := []) (rest := [.ref (g.2.2.1 91)]) C (c_X9_newVersion l g u_11 W  h) wd_359 wd_361 wp_4 wd_1 wd_362 hy_X9_newVersion rfl rfl ⟨by decide, by decide⟩ ⟨by decide, by decide⟩ (ci := 9) (by decide) (zCell_k kd_0) rfl rfl rfl rfl (Nat.le_of_ble_eq_true rfl) dX9_wouldChange_81) (fun r_12 M1 hq => ?_)
        obtain ⟨u_13, rfl, h⟩ := hq
        refine pf_RX9_262 C kd_91  dX9_wouldChange_84 (fun u_14 hu_14 => ?_)
        have h := h u_14 hu_14
        refine zm_aload_n C dX9_wouldChange_87 rfl 0 rfl ?_
        refine gf_RX9_39 (k1 := 95) C kd_0 rfl dX9_wouldChange_88 ?_
        refine zm_aload_n C dX9_wouldChange_91 rfl 0 rfl ?_
        refine gf_RX9_10 (k1 := 1) C kd_0 rfl dX9_wouldChange_92 ?_
        refine gf_RX9_138 (k1 := 2) C kd_1 rfl dX9_wouldChange_95 ?_
        refine zm_cv (zr_V (As := [.ref (g.2.2.1 2)]) (rest := []) C (c_X7_solve l g u_14 W 95 2 kd_95 kd_2 h) wd_594 wd_595 wd_596 wd_6 wd_597 hy_X7_solve rfl rfl ⟨by decide, by decide⟩ ⟨by decide, by decide⟩ (ci := 7) (by decide) (zCell_k kd_95) rfl rfl rfl rfl (Nat.le_of_ble_eq_true rfl) dX9_wouldChange_98) (fun M1 hq => ?_)
        obtain ⟨u_16, rfl, h⟩ := hq
        refine zm_aload_n C dX9_wouldChange_101 rfl 0 rfl ?_
        refine gf_RX9_43 (k1 := 100) C kd_0 rfl dX9_wouldChange_102 ?_
        refine zm_aload_n C dX9_wouldChange_105 rfl 0 rfl ?_
        refine gf_RX9_32 (k1 := 91) C kd_0 rfl dX9_wouldChange_106 ?_
        refine zm_cv (zr_V (As := [.ref (g.2.2.1 91)]) (rest := []) C (c_X7_solve l g u_16 W 100 91 kd_100 kd_91 h) wd_594 wd_595 wd_596 wd_6 wd_597 hy_X7_solve rfl rfl ⟨by decide, by decide⟩ ⟨by decide, by decide⟩ (ci := 7) (by decide) (zCell_k kd_100) rfl rfl rfl rfl (Nat.le_of_ble_eq_true rfl) dX9_wouldChange_109) (fun M1 hq => ?_)
        obtain ⟨u_18, rfl, h⟩ := hq
        refine zm_iconst (v := 0) C dX9_wouldChange_112 (by decide) ?_
        refine zm_istore_n (lv' := [(3, .int (0 : Int32)), (0, .ref (g.2.2.1 0)), (1, .int x1), (2, .int x2)]) C dX9_wouldChange_113 rfl (by decide) rfl ?_
        refine zm_iconst (v := 0) C dX9_wouldChange_114 (by decide) ?_
        refine zm_istore (lv' := [(4, .int (0 : Int32)), (3, .int (0 : Int32)), (0, .ref (g.2.2.1 0)), (1, .int x1), (2, .int x2)]) C dX9_wouldChange_115 (by decide) rfl ?_
        obtain ⟨nn, h⟩ := h
        exact zm_sub [2, 1, 0] rfl (vl_X9_wouldChange_117 C hr hstk ht  nn _ _ _ h)
      · have h := h.2 hc_7
        exact zm_throw (names := ["java/lang/RuntimeException", "java/lang/Exception"]) C hstk fit_IllegalArgumentException fit_names wd_560 wd_18 (is := 250) (text := "both burrows are one") (by decide) hat_IllegalArgumentException_155 hgd_IllegalArgumentException_155_151 dX9_wouldChange_43 dX9_wouldChange_46 dX9_wouldChange_47 dX9_wouldChange_49 dX9_wouldChange_52 ht (Nat.le_of_ble_eq_true rfl) (Nat.le_of_ble_eq_true rfl) (Nat.le_of_ble_eq_true rfl) (Nat.le_of_ble_eq_true rfl) (Nat.le_of_ble_eq_true rfl) (Nat.le_of_ble_eq_true rfl) ⟨_, rfl, h⟩
    · have h := h.2 hc_6
      exact zm_sub [] rfl (vb_X9_wouldChange_28 C hr hstk ht  _ h)
abbrev rm_X9_bestBurrow : Room := { frames := 7, cells := 2, slots := 12, locals := 111 }
def wb_X9_bestBurrow_117 (L26 : Int32 → Int32 → Int32 → Int32 → MU → Prop) (Q : Int32 → MU → Prop) (X : String → MU → Prop) (x1 : Int32) (x2 : Int32) (x3 : Int32) (x4 : Int32) (u : MU) : Prop := ∀ x4_1, x4_1 = x4 + (1 : Int32) → L26 x1 x2 x3 x4_1 u
set_option maxHeartbeats 4000000 in
set_option maxRecDepth 100000 in
theorem vb_X9_bestBurrow_117 {p : Program} {l : Launch} {e : Env} {s : State} {m : MethodId} {args : Array Value} {below : List Frame} {meth : Method} {c : Code} {g : GE} {W : MU × ((Nat → Int64) × (Nat → UInt64))} {Q : Int32 → MU → Prop} {X : String → MU → Prop} (C : zCx p l s m args meth c g RX9 cX9_bestBurrow 6) (hr : meth.sig.returnType = (Option.some Jvm.ClassFile.FieldType.int)) (hstk : l.stackTraces = false) (ht : ∀ x ∈ c.exceptionTable.toList, False) {L26 : Int32 → Int32 → Int32 → Int32 → MU → Prop} (hL26 : ∀ (x1 : Int32) (x2 : Int32) (x3 : Int32) (x4 : Int32) (u : MU), L26 x1 x2 x3 x4 u → WM p l e rm_X9_bestBurrow s m args below meth c g 6 1 6 (vx_MQ below (zQi g (zPx W Q)) (zXC g (zXx W X)) args s 2 12 (zA g)) 26 [(0, .ref (g.2.2.1 0)), (1, .int x1), (2, .int x2), (3, .int x3), (4, .int x4)] [] (u, W)) (x1 : Int32) (x2 : Int32) (x3 : Int32) (x4 : Int32) (u : MU) (h : wb_X9_bestBurrow_117 L26  Q X x1 x2 x3 x4 u) : WM p l e rm_X9_bestBurrow s m args below meth c g 6 1 6 (vx_MQ below (zQi g (zPx W Q)) (zXC g (zXx W X)) args s 2 12 (zA g)) 117 [(0, .ref (g.2.2.1 0)), (1, .int x1), (2, .int x2), (3, .int x3), (4, .int x4)] [] (u, W) := by
  unfold wb_X9_bestBurrow_117 at h
  obtain ⟨x4_1, hx4_1⟩ : ∃ z, z = x4 + (1 : Int32) := ⟨_, rfl⟩
  have h := h x4_1 hx4_1
  refine zm_iinc (v := x4_1) (lv' := [(4, .int x4_1), (0, .ref (g.2.2.1 0)), (1, .int x1), (2, .int x2), (3, .int x3)]) C dX9_bestBurrow_117 4 rfl (by rw [hx4_1]; rfl) (by decide) rfl ?_
  refine zm_goto (tgt := 26) C dX9_bestBurrow_120 (by decide) ?_
  exact zm_sub [1, 2, 3, 4, 0] rfl (hL26 _ _ _ _ _ h)
def wb_X9_bestBurrow_104 (L26 : Int32 → Int32 → Int32 → Int32 → MU → Prop) (Q : Int32 → MU → Prop) (X : String → MU → Prop) (x1 : Int32) (x4 : Int32) (x5 : Int32) (u : MU) : Prop := w_X7_inMoves 95 u x5 (fun r_1 => wb_X9_bestBurrow_117 L26  Q X x1 x4 r_1 x4 u)
set_option maxHeartbeats 4000000 in
set_option maxRecDepth 100000 in
theorem vb_X9_bestBurrow_104 {p : Program} {l : Launch} {e : Env} {s : State} {m : MethodId} {args : Array Value} {below : List Frame} {meth : Method} {c : Code} {g : GE} {W : MU × ((Nat → Int64) × (Nat → UInt64))} {Q : Int32 → MU → Prop} {X : String → MU → Prop} (C : zCx p l s m args meth c g RX9 cX9_bestBurrow 6) (hr : meth.sig.returnType = (Option.some Jvm.ClassFile.FieldType.int)) (hstk : l.stackTraces = false) (ht : ∀ x ∈ c.exceptionTable.toList, False) {L26 : Int32 → Int32 → Int32 → Int32 → MU → Prop} (hL26 : ∀ (x1 : Int32) (x2 : Int32) (x3 : Int32) (x4 : Int32) (u : MU), L26 x1 x2 x3 x4 u → WM p l e rm_X9_bestBurrow s m args below meth c g 6 1 6 (vx_MQ below (zQi g (zPx W Q)) (zXC g (zXx W X)) args s 2 12 (zA g)) 26 [(0, .ref (g.2.2.1 0)), (1, .int x1), (2, .int x2), (3, .int x3), (4, .int x4)] [] (u, W)) (x1 : Int32) (x4 : Int32) (x5 : Int32) (u : MU) (h : wb_X9_bestBurrow_104 L26  Q X x1 x4 x5 u) : WM p l e rm_X9_bestBurrow s m args below meth c g 6 1 6 (vx_MQ below (zQi g (zPx W Q)) (zXC g (zXx W X)) args s 2 12 (zA g)) 104 [(0, .ref (g.2.2.1 0)), (1, .int x1), (4, .int x4), (5, .int x5)] [] (u, W) := by
  unfold wb_X9_bestBurrow_104 at h
  refine zm_iload C dX9_bestBurrow_104 2 rfl ?_
  refine zm_istore_n (lv' := [(2, .int x4), (0, .ref (g.2.2.1 0)), (1, .int x1), (4, .int x4), (5, .int x5)]) C dX9_bestBurrow_106 rfl (by decide) rfl ?_
  refine zm_aload_n C dX9_bestBurrow_107 rfl 1 rfl ?_
  refine gf_RX9_39 (k1 := 95) C kd_0 rfl dX9_bestBurrow_108 ?_
  refine zm_iload C dX9_bestBurrow_111 4 rfl ?_
  refine zm_ci (zr_V (As := [.int x5]) (rest := []) C (c_X7_inMoves l g u W 95 kd_95 x5 h) wd_839 wd_840 wd_841 wd_6 wd_842 hy_X7_inMoves rfl rfl ⟨by decide, by decide⟩ ⟨by decide, by decide⟩ (ci := 7) (by decide) (zCell_k kd_95) rfl rfl rfl rfl (Nat.le_of_ble_eq_true rfl) dX9_bestBurrow_113) (fun r_1 M1 hq => ?_)
  obtain ⟨rfl, h⟩ := hq
  refine zm_istore_n (lv' := [(3, .int r_1), (2, .int x4), (0, .ref (g.2.2.1 0)), (1, .int x1), (4, .int x4), (5, .int x5)]) C dX9_bestBurrow_116 rfl (by decide) rfl ?_
  exact zm_sub [2, 3, 1, 0, 4] rfl (vb_X9_bestBurrow_117 C hr hstk ht hL26 _ _ _ _ _ h)
def wl_X9_bestBurrow_26 (Q : Int32 → MU → Prop) (X : String → MU → Prop) : Nat → Int32 → Int32 → Int32 → Int32 → MU → Prop
  | 0, _, _, _, _, _ => False
  | n + 1, x1, x2, x3, x4, u => (((u 2 0) ≤ x4) → ((¬ x2 = (-1 : Int32)) → Q x2 u) ∧ ((x2 = (-1 : Int32)) → X "java/util/NoSuchElementException" u)) ∧ ((¬ (u 2 0) ≤ x4) → w_X9_foxOf x1 (fun r_3 => ∀ x5_5, x5_5 = (x1 + ((162 : Int32) * (x4 - r_3))) → w_X1_holds 2 u x5_5 (fun r_6 => ((r_6 = 0) → wb_X9_bestBurrow_117 (fun x1' x2' x3' x4' u' => wl_X9_bestBurrow_26  Q X n x1' x2' x3' x4' u')  Q X x1 x2 x3 x4 u) ∧ ((¬ r_6 = 0) → w_X7_isFoxWinning 95 u x5_5 (fun r_9 => ((¬ r_9 = 0) → ((x2 = (-1 : Int32)) → wb_X9_bestBurrow_104 (fun x1' x2' x3' x4' u' => wl_X9_bestBurrow_26  Q X n x1' x2' x3' x4' u')  Q X x1 x4 x5_5 u) ∧ ((¬ x2 = (-1 : Int32)) → w_X7_inMoves 95 u x5_5 (fun r_13 => ((x3 ≤ r_13) → wb_X9_bestBurrow_117 (fun x1' x2' x3' x4' u' => wl_X9_bestBurrow_26  Q X n x1' x2' x3' x4' u')  Q X x1 x2 x3 x4 u) ∧ ((¬ x3 ≤ r_13) → wb_X9_bestBurrow_104 (fun x1' x2' x3' x4' u' => wl_X9_bestBurrow_26  Q X n x1' x2' x3' x4' u')  Q X x1 x4 x5_5 u)))) ∧ ((r_9 = 0) → wb_X9_bestBurrow_117 (fun x1' x2' x3' x4' u' => wl_X9_bestBurrow_26  Q X n x1' x2' x3' x4' u')  Q X x1 x2 x3 x4 u))))))
set_option maxHeartbeats 4000000 in
set_option maxRecDepth 100000 in
theorem vl_X9_bestBurrow_26 {p : Program} {l : Launch} {e : Env} {s : State} {m : MethodId} {args : Array Value} {below : List Frame} {meth : Method} {c : Code} {g : GE} {W : MU × ((Nat → Int64) × (Nat → UInt64))} {Q : Int32 → MU → Prop} {X : String → MU → Prop} (C : zCx p l s m args meth c g RX9 cX9_bestBurrow 6) (hr : meth.sig.returnType = (Option.some Jvm.ClassFile.FieldType.int)) (hstk : l.stackTraces = false) (ht : ∀ x ∈ c.exceptionTable.toList, False) : ∀ (n : Nat) (x1 : Int32) (x2 : Int32) (x3 : Int32) (x4 : Int32) (u : MU) , wl_X9_bestBurrow_26   Q X n x1 x2 x3 x4 u → WM p l e rm_X9_bestBurrow s m args below meth c g 6 1 6 (vx_MQ below (zQi g (zPx W Q)) (zXC g (zXx W X)) args s 2 12 (zA g)) 26 [(0, .ref (g.2.2.1 0)), (1, .int x1), (2, .int x2), (3, .int x3), (4, .int x4)] [] (u, W) := by
  intro n
  induction n with
  | zero => intro _ _ _ _ _ h; exact h.elim
  | succ n ih =>
    intro x1 x2 x3 x4 u h
    unfold wl_X9_bestBurrow_26 at h
    refine zm_iload C dX9_bestBurrow_26 4 rfl ?_
    refine zm_aload_n C dX9_bestBurrow_28 rfl 0 rfl ?_
    refine gf_RX9_10 (k1 := 1) C kd_0 rfl dX9_bestBurrow_29 ?_
    refine gf_RX9_138 (k1 := 2) C kd_1 rfl dX9_bestBurrow_32 ?_
    refine gf_RX9_265 C kd_2 dX9_bestBurrow_35 ?_
    refine zm_icmp_ge (tgt := 123) C dX9_bestBurrow_38 (by decide) (fun hc_1 => ?_) (fun hc_1 => ?_)
    · have h := h.1 hc_1
      refine zm_iload_n C dX9_bestBurrow_123 rfl 2 rfl ?_
      refine zm_iconst (v := -1) C dX9_bestBurrow_124 (by decide) ?_
      refine zm_icmp_ne (tgt := 139) C dX9_bestBurrow_125 (by decide) (fun hc_2 => ?_) (fun hc_2 => ?_)
      · have h := h.1 hc_2
        refine zm_iload_n C dX9_bestBurrow_139 rfl 2 rfl ?_
        refine zm_vx (by decide) (by decide) ?_
        exact zm_iret C hr dX9_bestBurrow_140 ⟨_, rfl, h⟩
      · have h := h.2 hc_2
        exact zm_throwNW C hstk wd_875 wd_22 (is := 274) (text := "no burrow wins for the fox") (by decide) hat_NoSuchElementException_132 hgd_NoSuchElementException_132_128 dX9_bestBurrow_128 dX9_bestBurrow_131 dX9_bestBurrow_132 dX9_bestBurrow_135 dX9_bestBurrow_138 ht (Nat.le_of_ble_eq_true rfl) (Nat.le_of_ble_eq_true rfl) (Nat.le_of_ble_eq_true rfl) (Nat.le_of_ble_eq_true rfl) (Nat.le_of_ble_eq_true rfl) (Nat.le_of_ble_eq_true rfl) ⟨_, rfl, h⟩
    · have h := h.2 hc_1
      refine zm_iload_n C dX9_bestBurrow_41 rfl 1 rfl ?_
      refine zm_sipush (v := 162) C dX9_bestBurrow_42 (by decide) ?_
      refine zm_iload C dX9_bestBurrow_45 4 rfl ?_
      refine zm_iload_n C dX9_bestBurrow_47 rfl 1 rfl ?_
      refine zm_ci (zr_S (As := [.int x1]) (rest := [.int x4, .int (162 : Int32), .int x1]) C (c_X9_foxOf l g (u, W) x1 h) wd_671 wd_626 wd_1 wd_627 hy_X9_foxOf rfl rfl ⟨by decide, by decide⟩ ⟨by decide, by decide⟩ rfl rfl (Nat.le_of_ble_eq_true rfl) dX9_bestBurrow_48) (fun r_3 M1 hq => ?_)
      obtain ⟨rfl, h⟩ := hq
      refine zm_isub C dX9_bestBurrow_51 ?_
      refine zm_imul C dX9_bestBurrow_52 ?_
      refine zm_iadd C dX9_bestBurrow_53 ?_
      refine zm_nmI (fun x5_5 hx5_5 => ?_)
      have h := h x5_5 hx5_5
      refine zm_istore (lv' := [(5, .int x5_5), (0, .ref (g.2.2.1 0)), (1, .int x1), (2, .int x2), (3, .int x3), (4, .int x4)]) C dX9_bestBurrow_54 (by decide) rfl ?_
      refine zm_aload_n C dX9_bestBurrow_56 rfl 1 rfl ?_
      refine gf_RX9_10 (k1 := 1) C kd_0 rfl dX9_bestBurrow_57 ?_
      refine gf_RX9_138 (k1 := 2) C kd_1 rfl dX9_bestBurrow_60 ?_
      refine zm_iload C dX9_bestBurrow_63 0 rfl ?_
      refine zm_ci (zr_V (As := [.int x5_5]) (rest := []) C (c_X1_holds l g u W 2 kd_2 x5_5 h) wd_776 wd_777 wd_778 wd_3 wd_779 hy_X1_holds rfl rfl ⟨by decide, by decide⟩ ⟨by decide, by decide⟩ (ci := 1) (by decide) (zCell_k kd_2) rfl rfl rfl rfl (Nat.le_of_ble_eq_true rfl) dX9_bestBurrow_65) (fun r_6 M1 hq => ?_)
      obtain ⟨rfl, h⟩ := hq
      refine zm_if_eq (tgt := 117) C dX9_bestBurrow_68 (by decide) (fun hc_8 => ?_) (fun hc_8 => ?_)
      · have h := h.1 hc_8
        exact zm_sub [1, 2, 3, 4, 5] rfl (vb_X9_bestBurrow_117 C hr hstk ht ih _ _ _ _ _ h)
      · have h := h.2 hc_8
        refine zm_aload_n C dX9_bestBurrow_71 rfl 1 rfl ?_
        refine gf_RX9_39 (k1 := 95) C kd_0 rfl dX9_bestBurrow_72 ?_
        refine zm_iload C dX9_bestBurrow_75 0 rfl ?_
        refine zm_ci (zr_V (As := [.int x5_5]) (rest := []) C (c_X7_isFoxWinning l g u W 95 kd_95 x5_5 h) wd_687 wd_688 wd_689 wd_6 wd_690 hy_X7_isFoxWinning rfl rfl ⟨by decide, by decide⟩ ⟨by decide, by decide⟩ (ci := 7) (by decide) (zCell_k kd_95) rfl rfl rfl rfl (Nat.le_of_ble_eq_true rfl) dX9_bestBurrow_77) (fun r_9 M1 hq => ?_)
        obtain ⟨rfl, h⟩ := hq
        refine zm_if_ne (tgt := 86) C dX9_bestBurrow_80 (by decide) (fun hc_11 => ?_) (fun hc_11 => ?_)
        · have h := h.1 hc_11
          refine zm_iload_n C dX9_bestBurrow_86 rfl 3 rfl ?_
          refine zm_iconst (v := -1) C dX9_bestBurrow_87 (by decide) ?_
          refine zm_icmp_eq (tgt := 104) C dX9_bestBurrow_88 (by decide) (fun hc_12 => ?_) (fun hc_12 => ?_)
          · have h := h.1 hc_12
            exact zm_sub [1, 2, 5, 0] rfl (vb_X9_bestBurrow_104 C hr hstk ht ih _ _ _ _ h)
          · have h := h.2 hc_12
            refine zm_aload_n C dX9_bestBurrow_91 rfl 1 rfl ?_
            refine gf_RX9_39 (k1 := 95) C kd_0 rfl dX9_bestBurrow_92 ?_
            refine zm_iload C dX9_bestBurrow_95 0 rfl ?_
            refine zm_ci (zr_V (As := [.int x5_5]) (rest := []) C (c_X7_inMoves l g u W 95 kd_95 x5_5 h) wd_839 wd_840 wd_841 wd_6 wd_842 hy_X7_inMoves rfl rfl ⟨by decide, by decide⟩ ⟨by decide, by decide⟩ (ci := 7) (by decide) (zCell_k kd_95) rfl rfl rfl rfl (Nat.le_of_ble_eq_true rfl) dX9_bestBurrow_97) (fun r_13 M1 hq => ?_)
            obtain ⟨rfl, h⟩ := hq
            refine zm_iload_n C dX9_bestBurrow_100 rfl 4 rfl ?_
            refine zm_icmp_ge (tgt := 117) C dX9_bestBurrow_101 (by decide) (fun hc_15 => ?_) (fun hc_15 => ?_)
            · have h := h.1 hc_15
              exact zm_sub [1, 2, 3, 4, 5] rfl (vb_X9_bestBurrow_117 C hr hstk ht ih _ _ _ _ _ h)
            · have h := h.2 hc_15
              exact zm_sub [1, 2, 5, 0] rfl (vb_X9_bestBurrow_104 C hr hstk ht ih _ _ _ _ h)
        · have h := h.2 hc_11
          refine zm_goto (tgt := 117) C dX9_bestBurrow_83 (by decide) ?_
          exact zm_sub [1, 2, 3, 4, 5] rfl (vb_X9_bestBurrow_117 C hr hstk ht ih _ _ _ _ _ h)
def w_X9_bestBurrow (x1 : Int32) (u : MU) (Q : Int32 → MU → Prop) (X : String → MU → Prop) : Prop := w_X9_needPosition x1 u (fun u_2 => w_X7_solve 95 2 u_2 (fun u_4 => ∃ nn, wl_X9_bestBurrow_26   Q X nn x1 (-1 : Int32) (0 : Int32) (0 : Int32) u_4)) X
set_option maxHeartbeats 4000000 in
set_option maxRecDepth 100000 in
theorem c_X9_bestBurrow (l : Launch) (hstk : l.stackTraces = false) (g : GE) (u : MU) (W : MU × ((Nat → Int64) × (Nat → UInt64))) (x1 : Int32) {Q : Int32 → MU → Prop} {X : String → MU → Prop} (h : w_X9_bestBurrow x1 u Q X) : vx_Met l yX9_bestBurrow (.code yX9_bestBurrow cX9_bestBurrow 6 (Option.some Jvm.ClassFile.FieldType.int) :: TB) rm_X9_bestBurrow (zPc g (u, W) [.ref (g.2.2.1 0), .int x1]) (zQi g (zPx W Q)) (zXC g (zXx W X)) 2 12 (zA g) := by
  unfold w_X9_bestBurrow at h
  refine zMetX (own := RX9) [(0, .ref (g.2.2.1 0)), (1, .int x1)] (by decide +kernel) rfl (Nat.le_of_ble_eq_true rfl) rfl (fun p e s m args below meth c C hr ht => ?_)
  refine zm_aload_n C dX9_bestBurrow_0 rfl 0 rfl ?_
  refine zm_iload_n C dX9_bestBurrow_1 rfl 1 rfl ?_
  refine zx_cv (zrX_V (As := [.int x1]) (rest := []) C (c_X9_needPosition l hstk g u W x1 h) wd_979 wd_981 wp_27 wd_1 wd_982 hy_X9_needPosition rfl rfl ⟨by decide, by decide⟩ ⟨by decide, by decide⟩ (ci := 9) (by decide) (zCell_k kd_0) rfl rfl rfl rfl (Nat.le_of_ble_eq_true rfl) dX9_bestBurrow_2) (fun E M1 hq => ?_) (fun M1 hq => ?_)
  · obtain ⟨u_2, rfl, h⟩ := hq
    exact zm_out C ht (by decide) (by decide) ⟨_, rfl, h⟩
  · obtain ⟨u_2, rfl, h⟩ := hq
    refine zm_aload_n C dX9_bestBurrow_5 rfl 0 rfl ?_
    refine gf_RX9_39 (k1 := 95) C kd_0 rfl dX9_bestBurrow_6 ?_
    refine zm_aload_n C dX9_bestBurrow_9 rfl 0 rfl ?_
    refine gf_RX9_10 (k1 := 1) C kd_0 rfl dX9_bestBurrow_10 ?_
    refine gf_RX9_138 (k1 := 2) C kd_1 rfl dX9_bestBurrow_13 ?_
    refine zm_cv (zr_V (As := [.ref (g.2.2.1 2)]) (rest := []) C (c_X7_solve l g u_2 W 95 2 kd_95 kd_2 h) wd_594 wd_595 wd_596 wd_6 wd_597 hy_X7_solve rfl rfl ⟨by decide, by decide⟩ ⟨by decide, by decide⟩ (ci := 7) (by decide) (zCell_k kd_95) rfl rfl rfl rfl (Nat.le_of_ble_eq_true rfl) dX9_bestBurrow_16) (fun M1 hq => ?_)
    obtain ⟨u_4, rfl, h⟩ := hq
    refine zm_iconst (v := -1) C dX9_bestBurrow_19 (by decide) ?_
    refine zm_istore_n (lv' := [(2, .int (-1 : Int32)), (0, .ref (g.2.2.1 0)), (1, .int x1)]) C dX9_bestBurrow_20 rfl (by decide) rfl ?_
    refine zm_iconst (v := 0) C dX9_bestBurrow_21 (by decide) ?_
    refine zm_istore_n (lv' := [(3, .int (0 : Int32)), (2, .int (-1 : Int32)), (0, .ref (g.2.2.1 0)), (1, .int x1)]) C dX9_bestBurrow_22 rfl (by decide) rfl ?_
    refine zm_iconst (v := 0) C dX9_bestBurrow_23 (by decide) ?_
    refine zm_istore (lv' := [(4, .int (0 : Int32)), (3, .int (0 : Int32)), (2, .int (-1 : Int32)), (0, .ref (g.2.2.1 0)), (1, .int x1)]) C dX9_bestBurrow_24 (by decide) rfl ?_
    obtain ⟨nn, h⟩ := h
    exact zm_sub [3, 4, 2, 1, 0] rfl (vl_X9_bestBurrow_26 C hr hstk ht  nn _ _ _ _ _ h)
abbrev rm_X9_winsOfFoxOn : Room := { frames := 4, cells := 0, slots := 0, locals := 107 }
def wb_X9_winsOfFoxOn_63 (L18 : Int32 → Int32 → Int32 → MU → Prop) (Q : Int32 → MU → Prop) (x1 : Int32) (x2 : Int32) (x3 : Int32) (u : MU) : Prop := ∀ x3_1, x3_1 = x3 + (1 : Int32) → L18 x1 x2 x3_1 u
set_option maxHeartbeats 4000000 in
set_option maxRecDepth 100000 in
theorem vb_X9_winsOfFoxOn_63 {p : Program} {l : Launch} {e : Env} {s : State} {m : MethodId} {args : Array Value} {below : List Frame} {meth : Method} {c : Code} {g : GE} {W : MU × ((Nat → Int64) × (Nat → UInt64))} {Q : Int32 → MU → Prop} (C : zCx p l s m args meth c g RX9 cX9_winsOfFoxOn 5) (hr : meth.sig.returnType = (Option.some Jvm.ClassFile.FieldType.int)) {L18 : Int32 → Int32 → Int32 → MU → Prop} (hL18 : ∀ (x1 : Int32) (x2 : Int32) (x3 : Int32) (u : MU), L18 x1 x2 x3 u → WM p l e rm_X9_winsOfFoxOn s m args below meth c g 5 0 0 (MQ below (zQi g (zPx W Q)) args s 0 0 (zA g)) 18 [(0, .ref (g.2.2.1 0)), (1, .int x1), (2, .int x2), (3, .int x3)] [] (u, W)) (x1 : Int32) (x2 : Int32) (x3 : Int32) (u : MU) (h : wb_X9_winsOfFoxOn_63 L18  Q x1 x2 x3 u) : WM p l e rm_X9_winsOfFoxOn s m args below meth c g 5 0 0 (MQ below (zQi g (zPx W Q)) args s 0 0 (zA g)) 63 [(0, .ref (g.2.2.1 0)), (1, .int x1), (2, .int x2), (3, .int x3)] [] (u, W) := by
  unfold wb_X9_winsOfFoxOn_63 at h
  obtain ⟨x3_1, hx3_1⟩ : ∃ z, z = x3 + (1 : Int32) := ⟨_, rfl⟩
  have h := h x3_1 hx3_1
  refine zm_iinc (v := x3_1) (lv' := [(3, .int x3_1), (0, .ref (g.2.2.1 0)), (1, .int x1), (2, .int x2)]) C dX9_winsOfFoxOn_63 3 rfl (by rw [hx3_1]; rfl) (by decide) rfl ?_
  refine zm_goto (tgt := 18) C dX9_winsOfFoxOn_66 (by decide) ?_
  exact zm_sub [1, 2, 3, 0] rfl (hL18 _ _ _ _ h)
def wl_X9_winsOfFoxOn_18 (Q : Int32 → MU → Prop) : Nat → Int32 → Int32 → Int32 → MU → Prop
  | 0, _, _, _, _ => False
  | n + 1, x1, x2, x3, u => (((u 95 0) ≤ x3) → Q x2 u) ∧ ((¬ (u 95 0) ≤ x3) → w_X7_positionAt 95 u x3 (fun r_2 => w_X9_foxOf r_2 (fun r_4 => ((¬ r_4 = x1) → wb_X9_winsOfFoxOn_63 (fun x1' x2' x3' u' => wl_X9_winsOfFoxOn_18  Q n x1' x2' x3' u')  Q x1 x2 x3 u) ∧ ((r_4 = x1) → w_X7_isFoxWinning 95 u r_2 (fun r_7 => ((r_7 = 0) → wb_X9_winsOfFoxOn_63 (fun x1' x2' x3' u' => wl_X9_winsOfFoxOn_18  Q n x1' x2' x3' u')  Q x1 x2 x3 u) ∧ ((¬ r_7 = 0) → ∀ x2_10, x2_10 = x2 + (1 : Int32) → wb_X9_winsOfFoxOn_63 (fun x1' x2' x3' u' => wl_X9_winsOfFoxOn_18  Q n x1' x2' x3' u')  Q x1 x2_10 x3 u))))))
set_option maxHeartbeats 4000000 in
set_option maxRecDepth 100000 in
theorem vl_X9_winsOfFoxOn_18 {p : Program} {l : Launch} {e : Env} {s : State} {m : MethodId} {args : Array Value} {below : List Frame} {meth : Method} {c : Code} {g : GE} {W : MU × ((Nat → Int64) × (Nat → UInt64))} {Q : Int32 → MU → Prop} (C : zCx p l s m args meth c g RX9 cX9_winsOfFoxOn 5) (hr : meth.sig.returnType = (Option.some Jvm.ClassFile.FieldType.int)) : ∀ (n : Nat) (x1 : Int32) (x2 : Int32) (x3 : Int32) (u : MU) , wl_X9_winsOfFoxOn_18   Q n x1 x2 x3 u → WM p l e rm_X9_winsOfFoxOn s m args below meth c g 5 0 0 (MQ below (zQi g (zPx W Q)) args s 0 0 (zA g)) 18 [(0, .ref (g.2.2.1 0)), (1, .int x1), (2, .int x2), (3, .int x3)] [] (u, W) := by
  intro n
  induction n with
  | zero => intro _ _ _ _ h; exact h.elim
  | succ n ih =>
    intro x1 x2 x3 u h
    unfold wl_X9_winsOfFoxOn_18 at h
    refine zm_iload_n C dX9_winsOfFoxOn_18 rfl 3 rfl ?_
    refine zm_aload_n C dX9_winsOfFoxOn_19 rfl 0 rfl ?_
    refine gf_RX9_39 (k1 := 95) C kd_0 rfl dX9_winsOfFoxOn_20 ?_
    refine gf_RX9_228 C kd_95 dX9_winsOfFoxOn_23 ?_
    refine zm_icmp_ge (tgt := 69) C dX9_winsOfFoxOn_26 (by decide) (fun hc_1 => ?_) (fun hc_1 => ?_)
    · have h := h.1 hc_1
      refine zm_iload_n C dX9_winsOfFoxOn_69 rfl 2 rfl ?_
      exact zm_iret C hr dX9_winsOfFoxOn_70 ⟨_, rfl, h⟩
    · have h := h.2 hc_1
      refine zm_aload_n C dX9_winsOfFoxOn_29 rfl 0 rfl ?_
      refine gf_RX9_39 (k1 := 95) C kd_0 rfl dX9_winsOfFoxOn_30 ?_
      refine zm_iload_n C dX9_winsOfFoxOn_33 rfl 3 rfl ?_
      refine zm_ci (zr_V (As := [.int x3]) (rest := []) C (c_X7_positionAt l g u W 95 kd_95 x3 h) wd_683 wd_684 wd_685 wd_6 wd_686 hy_X7_positionAt rfl rfl ⟨by decide, by decide⟩ ⟨by decide, by decide⟩ (ci := 7) (by decide) (zCell_k kd_95) rfl rfl rfl rfl (Nat.le_of_ble_eq_true rfl) dX9_winsOfFoxOn_34) (fun r_2 M1 hq => ?_)
      obtain ⟨rfl, h⟩ := hq
      refine zm_istore (lv' := [(4, .int r_2), (0, .ref (g.2.2.1 0)), (1, .int x1), (2, .int x2), (3, .int x3)]) C dX9_winsOfFoxOn_37 (by decide) rfl ?_
      refine zm_iload C dX9_winsOfFoxOn_39 0 rfl ?_
      refine zm_ci (zr_S (As := [.int r_2]) (rest := []) C (c_X9_foxOf l g (u, W) r_2 h) wd_671 wd_626 wd_1 wd_627 hy_X9_foxOf rfl rfl ⟨by decide, by decide⟩ ⟨by decide, by decide⟩ rfl rfl (Nat.le_of_ble_eq_true rfl) dX9_winsOfFoxOn_41) (fun r_4 M1 hq => ?_)
      obtain ⟨rfl, h⟩ := hq
      refine zm_iload_n C dX9_winsOfFoxOn_44 rfl 2 rfl ?_
      refine zm_icmp_ne (tgt := 63) C dX9_winsOfFoxOn_45 (by decide) (fun hc_6 => ?_) (fun hc_6 => ?_)
      · have h := h.1 hc_6
        exact zm_sub [1, 2, 3, 4] rfl (vb_X9_winsOfFoxOn_63 C hr ih _ _ _ _ h)
      · have h := h.2 hc_6
        refine zm_aload_n C dX9_winsOfFoxOn_48 rfl 1 rfl ?_
        refine gf_RX9_39 (k1 := 95) C kd_0 rfl dX9_winsOfFoxOn_49 ?_
        refine zm_iload C dX9_winsOfFoxOn_52 0 rfl ?_
        refine zm_ci (zr_V (As := [.int r_2]) (rest := []) C (c_X7_isFoxWinning l g u W 95 kd_95 r_2 h) wd_687 wd_688 wd_689 wd_6 wd_690 hy_X7_isFoxWinning rfl rfl ⟨by decide, by decide⟩ ⟨by decide, by decide⟩ (ci := 7) (by decide) (zCell_k kd_95) rfl rfl rfl rfl (Nat.le_of_ble_eq_true rfl) dX9_winsOfFoxOn_54) (fun r_7 M1 hq => ?_)
        obtain ⟨rfl, h⟩ := hq
        refine zm_if_eq (tgt := 63) C dX9_winsOfFoxOn_57 (by decide) (fun hc_9 => ?_) (fun hc_9 => ?_)
        · have h := h.1 hc_9
          exact zm_sub [1, 2, 3, 4] rfl (vb_X9_winsOfFoxOn_63 C hr ih _ _ _ _ h)
        · have h := h.2 hc_9
          obtain ⟨x2_10, hx2_10⟩ : ∃ z, z = x2 + (1 : Int32) := ⟨_, rfl⟩
          have h := h x2_10 hx2_10
          refine zm_iinc (v := x2_10) (lv' := [(2, .int x2_10), (4, .int r_2), (0, .ref (g.2.2.1 0)), (1, .int x1), (3, .int x3)]) C dX9_winsOfFoxOn_60 3 rfl (by rw [hx2_10]; rfl) (by decide) rfl ?_
          exact zm_sub [2, 3, 0, 4] rfl (vb_X9_winsOfFoxOn_63 C hr ih _ _ _ _ h)
def w_X9_winsOfFoxOn (x1 : Int32) (u : MU) (Q : Int32 → MU → Prop) : Prop := w_X7_solve 95 2 u (fun u_2 => ∃ nn, wl_X9_winsOfFoxOn_18   Q nn x1 (0 : Int32) (0 : Int32) u_2)
set_option maxHeartbeats 4000000 in
set_option maxRecDepth 100000 in
theorem c_X9_winsOfFoxOn (l : Launch) (g : GE) (u : MU) (W : MU × ((Nat → Int64) × (Nat → UInt64))) (x1 : Int32) {Q : Int32 → MU → Prop} (h : w_X9_winsOfFoxOn x1 u Q) : Met l yX9_winsOfFoxOn (.code yX9_winsOfFoxOn cX9_winsOfFoxOn 5 (Option.some Jvm.ClassFile.FieldType.int) :: TB) rm_X9_winsOfFoxOn (zPc g (u, W) [.ref (g.2.2.1 0), .int x1]) (zQi g (zPx W Q)) 0 0 (zA g) := by
  unfold w_X9_winsOfFoxOn at h
  refine zMet (own := RX9) [(0, .ref (g.2.2.1 0)), (1, .int x1)] (by decide +kernel) rfl (Nat.le_of_ble_eq_true rfl) rfl (fun p e s m args below meth c C hr => ?_)
  refine zm_aload_n C dX9_winsOfFoxOn_0 rfl 0 rfl ?_
  refine gf_RX9_39 (k1 := 95) C kd_0 rfl dX9_winsOfFoxOn_1 ?_
  refine zm_aload_n C dX9_winsOfFoxOn_4 rfl 0 rfl ?_
  refine gf_RX9_10 (k1 := 1) C kd_0 rfl dX9_winsOfFoxOn_5 ?_
  refine gf_RX9_138 (k1 := 2) C kd_1 rfl dX9_winsOfFoxOn_8 ?_
  refine zm_cv (zr_V (As := [.ref (g.2.2.1 2)]) (rest := []) C (c_X7_solve l g u W 95 2 kd_95 kd_2 h) wd_594 wd_595 wd_596 wd_6 wd_597 hy_X7_solve rfl rfl ⟨by decide, by decide⟩ ⟨by decide, by decide⟩ (ci := 7) (by decide) (zCell_k kd_95) rfl rfl rfl rfl (Nat.le_of_ble_eq_true rfl) dX9_winsOfFoxOn_11) (fun M1 hq => ?_)
  obtain ⟨u_2, rfl, h⟩ := hq
  refine zm_iconst (v := 0) C dX9_winsOfFoxOn_14 (by decide) ?_
  refine zm_istore_n (lv' := [(2, .int (0 : Int32)), (0, .ref (g.2.2.1 0)), (1, .int x1)]) C dX9_winsOfFoxOn_15 rfl (by decide) rfl ?_
  refine zm_iconst (v := 0) C dX9_winsOfFoxOn_16 (by decide) ?_
  refine zm_istore_n (lv' := [(3, .int (0 : Int32)), (2, .int (0 : Int32)), (0, .ref (g.2.2.1 0)), (1, .int x1)]) C dX9_winsOfFoxOn_17 rfl (by decide) rfl ?_
  obtain ⟨nn, h⟩ := h
  exact zm_sub [2, 3, 1, 0] rfl (vl_X9_winsOfFoxOn_18 C hr  nn _ _ _ _ h)
abbrev rm_X9_burrowOf : Room := { frames := 6, cells := 1, slots := 6, locals := 131 }
def wb_X9_burrowOf_33 (Q : Int32 → MU → Prop) (X : String → MU → Prop) (u : MU) : Prop := X "java/lang/IllegalArgumentException" u
set_option maxHeartbeats 4000000 in
set_option maxRecDepth 100000 in
theorem vb_X9_burrowOf_33 {p : Program} {l : Launch} {e : Env} {s : State} {m : MethodId} {args : Array Value} {below : List Frame} {meth : Method} {c : Code} {g : GE} {W : MU × ((Nat → Int64) × (Nat → UInt64))} {Q : Int32 → MU → Prop} {X : String → MU → Prop} (C : zCx p l s m args meth c g RX9 cX9_burrowOf 3) (hr : meth.sig.returnType = (Option.some Jvm.ClassFile.FieldType.int)) (hstk : l.stackTraces = false) (ht : ∀ x ∈ c.exceptionTable.toList, False) (u : MU) (h : wb_X9_burrowOf_33   Q X  u) : WM p l e rm_X9_burrowOf s m args below meth c g 3 0 0 (vx_MQ below (zQi g (zPx W Q)) (zXC g (zXx W X)) args s 1 6 (zA g)) 33 [] [] (u, W) := by
  unfold wb_X9_burrowOf_33 at h
  exact zm_throwW (names := ["java/lang/RuntimeException", "java/lang/Exception"]) C hstk fit_IllegalArgumentException fit_names wd_560 wd_18 (is := 276) (text := "what is not from 0 to 3") (by decide) hat_IllegalArgumentException_155 hgd_IllegalArgumentException_155_151 dX9_burrowOf_33 dX9_burrowOf_36 dX9_burrowOf_37 dX9_burrowOf_40 dX9_burrowOf_43 ht (Nat.le_of_ble_eq_true rfl) (Nat.le_of_ble_eq_true rfl) (Nat.le_of_ble_eq_true rfl) (Nat.le_of_ble_eq_true rfl) (Nat.le_of_ble_eq_true rfl) (Nat.le_of_ble_eq_true rfl) ⟨_, rfl, h⟩
def w_X9_burrowOf (x1 : Int32) (x2 : Int32) (u : MU) (Q : Int32 → MU → Prop) (X : String → MU → Prop) : Prop := w_X1_has 2 u x1 (fun r_1 => ((¬ r_1 = 0) → ((x2 < 0) → wb_X9_burrowOf_33   Q X u) ∧ ((¬ x2 < 0) → ((x2 ≤ (3 : Int32)) → (x2 = (0 : Int32) → w_X9_at 5 u x1 (fun r_8 => w_J6_bitCount_0f7a4 r_8 (fun r_10 => Q r_10 u))) ∧ (¬ x2 = (0 : Int32) → (x2 = (1 : Int32) → w_X9_at 5 u x1 (fun r_13 => w_X9_above x1 (fun r_15 => w_J6_bitCount_0f7a4 (r_13 &&& r_15) (fun r_17 => Q r_17 u)))) ∧ (¬ x2 = (1 : Int32) → (x2 = (2 : Int32) → w_X1_isTrap 2 u x1 (fun r_20 => ((r_20 = 0) → Q (0 : Int32) u) ∧ ((¬ r_20 = 0) → Q (1 : Int32) u))) ∧ (¬ x2 = (2 : Int32) → w_X9_winsOfFoxOn x1 u (fun r_23 u_24 => Q r_23 u_24))))) ∧ ((¬ x2 ≤ (3 : Int32)) → wb_X9_burrowOf_33   Q X u))) ∧ ((r_1 = 0) → X "java/lang/IndexOutOfBoundsException" u))
set_option maxHeartbeats 4000000 in
set_option maxRecDepth 100000 in
theorem c_X9_burrowOf (l : Launch) (hstk : l.stackTraces = false) (g : GE) (u : MU) (W : MU × ((Nat → Int64) × (Nat → UInt64))) (x1 : Int32) (x2 : Int32) {Q : Int32 → MU → Prop} {X : String → MU → Prop} (h : w_X9_burrowOf x1 x2 u Q X) : vx_Met l yX9_burrowOf (.code yX9_burrowOf cX9_burrowOf 3 (Option.some Jvm.ClassFile.FieldType.int) :: TB) rm_X9_burrowOf (zPc g (u, W) [.ref (g.2.2.1 0), .int x1, .int x2]) (zQi g (zPx W Q)) (zXC g (zXx W X)) 1 6 (zA g) := by
  unfold w_X9_burrowOf at h
  refine zMetX (own := RX9) [(0, .ref (g.2.2.1 0)), (1, .int x1), (2, .int x2)] (by decide +kernel) rfl (Nat.le_of_ble_eq_true rfl) rfl (fun p e s m args below meth c C hr ht => ?_)
  refine zm_aload_n C dX9_burrowOf_0 rfl 0 rfl ?_
  refine gf_RX9_10 (k1 := 1) C kd_0 rfl dX9_burrowOf_1 ?_
  refine gf_RX9_138 (k1 := 2) C kd_1 rfl dX9_burrowOf_4 ?_
  refine zm_iload_n C dX9_burrowOf_7 rfl 1 rfl ?_
  refine zm_ci (zr_V (As := [.int x1]) (rest := []) C (c_X1_has l g u W 2 kd_2 x1 h) wd_464 wd_465 wd_466 wd_3 wd_467 hy_X1_has rfl rfl ⟨by decide, by decide⟩ ⟨by decide, by decide⟩ (ci := 1) (by decide) (zCell_k kd_2) rfl rfl rfl rfl (Nat.le_of_ble_eq_true rfl) dX9_burrowOf_8) (fun r_1 M1 hq => ?_)
  obtain ⟨rfl, h⟩ := hq
  refine zm_if_ne (tgt := 24) C dX9_burrowOf_11 (by decide) (fun hc_3 => ?_) (fun hc_3 => ?_)
  · have h := h.1 hc_3
    refine zm_iload_n C dX9_burrowOf_24 rfl 2 rfl ?_
    refine zm_if_lt (tgt := 33) C dX9_burrowOf_25 (by decide) (fun hc_4 => ?_) (fun hc_4 => ?_)
    · have h := h.1 hc_4
      exact zm_sub [] rfl (vb_X9_burrowOf_33 C hr hstk ht  _ h)
    · have h := h.2 hc_4
      refine zm_iload_n C dX9_burrowOf_28 rfl 2 rfl ?_
      refine zm_iconst (v := 3) C dX9_burrowOf_29 (by decide) ?_
      refine zm_icmp_le (tgt := 44) C dX9_burrowOf_30 (by decide) (fun hc_5 => ?_) (fun hc_5 => ?_)
      · have h := h.1 hc_5
        refine zm_iload_n C dX9_burrowOf_44 rfl 2 rfl ?_
        by_cases hc_7 : x2 = (0 : Int32)
        · have h := h.1 hc_7
          refine zm_tableIn (tgt := 72) C dX9_burrowOf_45 (by rw [hc_7]; decide) (by rw [hc_7]; decide) (by rw [hc_7]; rfl) (by decide) ?_
          refine zm_aload_n C dX9_burrowOf_72 rfl 0 rfl ?_
          refine gf_RX9_10 (k1 := 1) C kd_0 rfl dX9_burrowOf_73 ?_
          refine gf_RX9_138 (k1 := 2) C kd_1 rfl dX9_burrowOf_76 ?_
          refine gf_RX9_278 (k1 := 5) C kd_2 rfl dX9_burrowOf_79 ?_
          refine zm_iload_n C dX9_burrowOf_82 rfl 1 rfl ?_
          refine zm_ci (zr_S (As := [.ref (g.2.2.1 5), .int x1]) (rest := []) C (c_X9_at l g u W 5 kd_5 x1 h) wd_576 wd_473 wd_1 wd_474 hy_X9_at rfl rfl ⟨by decide, by decide⟩ ⟨by decide, by decide⟩ rfl rfl (Nat.le_of_ble_eq_true rfl) dX9_burrowOf_83) (fun r_8 M1 hq => ?_)
          obtain ⟨rfl, h⟩ := hq
          refine zm_ci (zr_Sx (As := [.int r_8]) (rest := []) C (c_J6_bitCount_0f7a4 l g (u, W) r_8 h) wd_577 wd_578 wd_20 wd_579 hz_J6_bitCount_0f7a4 rfl rfl ⟨by decide, by decide⟩ ⟨by decide, by decide⟩ rfl rfl (Nat.le_of_ble_eq_true rfl) dX9_burrowOf_86) (fun r_10 M1 hq => ?_)
          obtain ⟨rfl, h⟩ := hq
          refine zm_vx (by decide) (by decide) ?_
          exact zm_iret C hr dX9_burrowOf_89 ⟨_, rfl, h⟩
        · have h := h.2 hc_7
          by_cases hc_12 : x2 = (1 : Int32)
          · have h := h.1 hc_12
            refine zm_tableIn (tgt := 90) C dX9_burrowOf_45 (by rw [hc_12]; decide) (by rw [hc_12]; decide) (by rw [hc_12]; rfl) (by decide) ?_
            refine zm_aload_n C dX9_burrowOf_90 rfl 0 rfl ?_
            refine gf_RX9_10 (k1 := 1) C kd_0 rfl dX9_burrowOf_91 ?_
            refine gf_RX9_138 (k1 := 2) C kd_1 rfl dX9_burrowOf_94 ?_
            refine gf_RX9_278 (k1 := 5) C kd_2 rfl dX9_burrowOf_97 ?_
            refine zm_iload_n C dX9_burrowOf_100 rfl 1 rfl ?_
            refine zm_ci (zr_S (As := [.ref (g.2.2.1 5), .int x1]) (rest := []) C (c_X9_at l g u W 5 kd_5 x1 h) wd_576 wd_473 wd_1 wd_474 hy_X9_at rfl rfl ⟨by decide, by decide⟩ ⟨by decide, by decide⟩ rfl rfl (Nat.le_of_ble_eq_true rfl) dX9_burrowOf_101) (fun r_13 M1 hq => ?_)
            obtain ⟨rfl, h⟩ := hq
            refine zm_iload_n C dX9_burrowOf_104 rfl 1 rfl ?_
            refine zm_ci (zr_S (As := [.int x1]) (rest := [.int r_13]) C (c_X9_above l g (u, W) x1 h) wd_583 wd_584 wd_1 wd_585 hy_X9_above rfl rfl ⟨by decide, by decide⟩ ⟨by decide, by decide⟩ rfl rfl (Nat.le_of_ble_eq_true rfl) dX9_burrowOf_105) (fun r_15 M1 hq => ?_)
            obtain ⟨rfl, h⟩ := hq
            refine zm_iand C dX9_burrowOf_108 ?_
            refine zm_ci (zr_Sx (As := [.int (r_13 &&& r_15)]) (rest := []) C (c_J6_bitCount_0f7a4 l g (u, W) (r_13 &&& r_15) h) wd_577 wd_578 wd_20 wd_579 hz_J6_bitCount_0f7a4 rfl rfl ⟨by decide, by decide⟩ ⟨by decide, by decide⟩ rfl rfl (Nat.le_of_ble_eq_true rfl) dX9_burrowOf_109) (fun r_17 M1 hq => ?_)
            obtain ⟨rfl, h⟩ := hq
            refine zm_vx (by decide) (by decide) ?_
            exact zm_iret C hr dX9_burrowOf_112 ⟨_, rfl, h⟩
          · have h := h.2 hc_12
            by_cases hc_19 : x2 = (2 : Int32)
            · have h := h.1 hc_19
              refine zm_tableIn (tgt := 113) C dX9_burrowOf_45 (by rw [hc_19]; decide) (by rw [hc_19]; decide) (by rw [hc_19]; rfl) (by decide) ?_
              refine zm_aload_n C dX9_burrowOf_113 rfl 0 rfl ?_
              refine gf_RX9_10 (k1 := 1) C kd_0 rfl dX9_burrowOf_114 ?_
              refine gf_RX9_138 (k1 := 2) C kd_1 rfl dX9_burrowOf_117 ?_
              refine zm_iload_n C dX9_burrowOf_120 rfl 1 rfl ?_
              refine zm_ci (zr_V (As := [.int x1]) (rest := []) C (c_X1_isTrap l g u W 2 kd_2 x1 h) wd_586 wd_587 wd_588 wd_3 wd_589 hy_X1_isTrap rfl rfl ⟨by decide, by decide⟩ ⟨by decide, by decide⟩ (ci := 1) (by decide) (zCell_k kd_2) rfl rfl rfl rfl (Nat.le_of_ble_eq_true rfl) dX9_burrowOf_121) (fun r_20 M1 hq => ?_)
              obtain ⟨rfl, h⟩ := hq
              refine zm_if_eq (tgt := 131) C dX9_burrowOf_124 (by decide) (fun hc_22 => ?_) (fun hc_22 => ?_)
              · have h := h.1 hc_22
                refine zm_iconst (v := 0) C dX9_burrowOf_131 (by decide) ?_
                refine zm_vx (by decide) (by decide) ?_
                exact zm_iret C hr dX9_burrowOf_132 ⟨_, rfl, h⟩
              · have h := h.2 hc_22
                refine zm_iconst (v := 1) C dX9_burrowOf_127 (by decide) ?_
                refine zm_goto (tgt := 132) C dX9_burrowOf_128 (by decide) ?_
                refine zm_vx (by decide) (by decide) ?_
                exact zm_iret C hr dX9_burrowOf_132 ⟨_, rfl, h⟩
            · have h := h.2 hc_19
              have n0 := lv_neT (a := 0) hc_7 rfl
              have n1 := lv_neT (a := 1) hc_12 rfl
              have n2 := lv_neT (a := 2) hc_19 rfl
              refine zm_tableOut (tgt := 133) C dX9_burrowOf_45 (by omega) (by decide) ?_
              refine zm_aload_n C dX9_burrowOf_133 rfl 0 rfl ?_
              refine zm_iload_n C dX9_burrowOf_134 rfl 1 rfl ?_
              refine zm_ci (zr_V (As := [.int x1]) (rest := []) C (c_X9_winsOfFoxOn l g u W x1 h) wd_590 wd_592 wp_12 wd_1 wd_593 hy_X9_winsOfFoxOn rfl rfl ⟨by decide, by decide⟩ ⟨by decide, by decide⟩ (ci := 9) (by decide) (zCell_k kd_0) rfl rfl rfl rfl (Nat.le_of_ble_eq_true rfl) dX9_burrowOf_135) (fun r_23 M1 hq => ?_)
              obtain ⟨u_24, rfl, h⟩ := hq
              refine zm_vx (by decide) (by decide) ?_
              exact zm_iret C hr dX9_burrowOf_138 ⟨_, rfl, h⟩
      · have h := h.2 hc_5
        exact zm_sub [] rfl (vb_X9_burrowOf_33 C hr hstk ht  _ h)
  · have h := h.2 hc_3
    exact zm_throw (names := ["java/lang/RuntimeException", "java/lang/Exception"]) C hstk fit_IndexOutOfBoundsException fit_names wd_547 wd_23 (is := 247) (text := "there is no such burrow") (by decide) hat_IndexOutOfBoundsException_249 hgd_IndexOutOfBoundsException_249_245 dX9_burrowOf_14 dX9_burrowOf_17 dX9_burrowOf_18 dX9_burrowOf_20 dX9_burrowOf_23 ht (Nat.le_of_ble_eq_true rfl) (Nat.le_of_ble_eq_true rfl) (Nat.le_of_ble_eq_true rfl) (Nat.le_of_ble_eq_true rfl) (Nat.le_of_ble_eq_true rfl) (Nat.le_of_ble_eq_true rfl) ⟨_, rfl, h⟩
abbrev rm_X9_pathOf : Room := { frames := 6, cells := 1, slots := 6, locals := 90 }
def wb_X9_pathOf_18 (Q : Int32 → MU → Prop) (X : String → MU → Prop) (u : MU) : Prop := X "java/lang/IndexOutOfBoundsException" u
set_option maxHeartbeats 4000000 in
set_option maxRecDepth 100000 in
theorem vb_X9_pathOf_18 {p : Program} {l : Launch} {e : Env} {s : State} {m : MethodId} {args : Array Value} {below : List Frame} {meth : Method} {c : Code} {g : GE} {W : MU × ((Nat → Int64) × (Nat → UInt64))} {Q : Int32 → MU → Prop} {X : String → MU → Prop} (C : zCx p l s m args meth c g RX9 cX9_pathOf 3) (hr : meth.sig.returnType = (Option.some Jvm.ClassFile.FieldType.int)) (hstk : l.stackTraces = false) (ht : ∀ x ∈ c.exceptionTable.toList, False) (u : MU) (h : wb_X9_pathOf_18   Q X  u) : WM p l e rm_X9_pathOf s m args below meth c g 3 0 0 (vx_MQ below (zQi g (zPx W Q)) (zXC g (zXx W X)) args s 1 6 (zA g)) 18 [] [] (u, W) := by
  unfold wb_X9_pathOf_18 at h
  exact zm_throwW (names := ["java/lang/RuntimeException", "java/lang/Exception"]) C hstk fit_IndexOutOfBoundsException fit_names wd_547 wd_23 (is := 302) (text := "there is no such path") (by decide) hat_IndexOutOfBoundsException_249 hgd_IndexOutOfBoundsException_249_245 dX9_pathOf_18 dX9_pathOf_21 dX9_pathOf_22 dX9_pathOf_25 dX9_pathOf_28 ht (Nat.le_of_ble_eq_true rfl) (Nat.le_of_ble_eq_true rfl) (Nat.le_of_ble_eq_true rfl) (Nat.le_of_ble_eq_true rfl) (Nat.le_of_ble_eq_true rfl) (Nat.le_of_ble_eq_true rfl) ⟨_, rfl, h⟩
def w_X9_pathOf (x1 : Int32) (x2 : Int32) (u : MU) (Q : Int32 → MU → Prop) (X : String → MU → Prop) : Prop := ((x1 < 0) → wb_X9_pathOf_18   Q X u) ∧ ((¬ x1 < 0) → ((x1 < (u 2 1)) → ((x2 = 0) → w_X9_at 3 u x1 (fun r_4 => Q r_4 u)) ∧ ((¬ x2 = 0) → w_X9_at 4 u x1 (fun r_6 => Q r_6 u))) ∧ ((¬ x1 < (u 2 1)) → wb_X9_pathOf_18   Q X u))
set_option maxHeartbeats 4000000 in
set_option maxRecDepth 100000 in
theorem c_X9_pathOf (l : Launch) (hstk : l.stackTraces = false) (g : GE) (u : MU) (W : MU × ((Nat → Int64) × (Nat → UInt64))) (x1 : Int32) (x2 : Int32) {Q : Int32 → MU → Prop} {X : String → MU → Prop} (h : w_X9_pathOf x1 x2 u Q X) : vx_Met l yX9_pathOf (.code yX9_pathOf cX9_pathOf 3 (Option.some Jvm.ClassFile.FieldType.int) :: TB) rm_X9_pathOf (zPc g (u, W) [.ref (g.2.2.1 0), .int x1, .int x2]) (zQi g (zPx W Q)) (zXC g (zXx W X)) 1 6 (zA g) := by
  unfold w_X9_pathOf at h
  refine zMetX (own := RX9) [(0, .ref (g.2.2.1 0)), (1, .int x1), (2, .int x2)] (by decide +kernel) rfl (Nat.le_of_ble_eq_true rfl) rfl (fun p e s m args below meth c C hr ht => ?_)
  refine zm_iload_n C dX9_pathOf_0 rfl 1 rfl ?_
  refine zm_if_lt (tgt := 18) C dX9_pathOf_1 (by decide) (fun hc_1 => ?_) (fun hc_1 => ?_)
  · have h := h.1 hc_1
    exact zm_sub [] rfl (vb_X9_pathOf_18 C hr hstk ht  _ h)
  · have h := h.2 hc_1
    refine zm_iload_n C dX9_pathOf_4 rfl 1 rfl ?_
    refine zm_aload_n C dX9_pathOf_5 rfl 0 rfl ?_
    refine gf_RX9_10 (k1 := 1) C kd_0 rfl dX9_pathOf_6 ?_
    refine gf_RX9_138 (k1 := 2) C kd_1 rfl dX9_pathOf_9 ?_
    refine gf_RX9_299 C kd_2 dX9_pathOf_12 ?_
    refine zm_icmp_lt (tgt := 29) C dX9_pathOf_15 (by decide) (fun hc_2 => ?_) (fun hc_2 => ?_)
    · have h := h.1 hc_2
      refine zm_iload_n C dX9_pathOf_29 rfl 2 rfl ?_
      refine zm_if_eq (tgt := 46) C dX9_pathOf_30 (by decide) (fun hc_3 => ?_) (fun hc_3 => ?_)
      · have h := h.1 hc_3
        refine zm_aload_n C dX9_pathOf_46 rfl 0 rfl ?_
        refine gf_RX9_10 (k1 := 1) C kd_0 rfl dX9_pathOf_47 ?_
        refine gf_RX9_138 (k1 := 2) C kd_1 rfl dX9_pathOf_50 ?_
        refine gf_RX9_307 (k1 := 3) C kd_2 rfl dX9_pathOf_53 ?_
        refine zm_iload_n C dX9_pathOf_56 rfl 1 rfl ?_
        refine zm_ci (zr_S (As := [.ref (g.2.2.1 3), .int x1]) (rest := []) C (c_X9_at l g u W 3 kd_3 x1 h) wd_576 wd_473 wd_1 wd_474 hy_X9_at rfl rfl ⟨by decide, by decide⟩ ⟨by decide, by decide⟩ rfl rfl (Nat.le_of_ble_eq_true rfl) dX9_pathOf_57) (fun r_4 M1 hq => ?_)
        obtain ⟨rfl, h⟩ := hq
        refine zm_vx (by decide) (by decide) ?_
        exact zm_iret C hr dX9_pathOf_60 ⟨_, rfl, h⟩
      · have h := h.2 hc_3
        refine zm_aload_n C dX9_pathOf_33 rfl 0 rfl ?_
        refine gf_RX9_10 (k1 := 1) C kd_0 rfl dX9_pathOf_34 ?_
        refine gf_RX9_138 (k1 := 2) C kd_1 rfl dX9_pathOf_37 ?_
        refine gf_RX9_304 (k1 := 4) C kd_2 rfl dX9_pathOf_40 ?_
        refine zm_goto (tgt := 56) C dX9_pathOf_43 (by decide) ?_
        refine zm_iload_n C dX9_pathOf_56 rfl 1 rfl ?_
        refine zm_ci (zr_S (As := [.ref (g.2.2.1 4), .int x1]) (rest := []) C (c_X9_at l g u W 4 kd_4 x1 h) wd_576 wd_473 wd_1 wd_474 hy_X9_at rfl rfl ⟨by decide, by decide⟩ ⟨by decide, by decide⟩ rfl rfl (Nat.le_of_ble_eq_true rfl) dX9_pathOf_57) (fun r_6 M1 hq => ?_)
        obtain ⟨rfl, h⟩ := hq
        refine zm_vx (by decide) (by decide) ?_
        exact zm_iret C hr dX9_pathOf_60 ⟨_, rfl, h⟩
    · have h := h.2 hc_2
      exact zm_sub [] rfl (vb_X9_pathOf_18 C hr hstk ht  _ h)
abbrev rm_X9_meanMoves : Room := { frames := 6, cells := 1, slots := 6, locals := 107 }
def wb_X9_meanMoves_61 (L20 : Int32 → Int32 → Int32 → MU → Prop) (Q : UInt64 → MU → Prop) (X : String → MU → Prop) (x1 : Int32) (x2 : Int32) (x3 : Int32) (u : MU) : Prop := ∀ x3_1, x3_1 = x3 + (1 : Int32) → L20 x1 x2 x3_1 u
set_option maxHeartbeats 4000000 in
set_option maxRecDepth 100000 in
theorem vb_X9_meanMoves_61 {p : Program} {l : Launch} {e : Env} {s : State} {m : MethodId} {args : Array Value} {below : List Frame} {meth : Method} {c : Code} {g : GE} {W : MU × ((Nat → Int64) × (Nat → UInt64))} {Q : UInt64 → MU → Prop} {X : String → MU → Prop} (C : zCx p l s m args meth c g RX9 cX9_meanMoves 5) (hr : meth.sig.returnType = (Option.some Jvm.ClassFile.FieldType.double)) (hstk : l.stackTraces = false) (ht : ∀ x ∈ c.exceptionTable.toList, False) {L20 : Int32 → Int32 → Int32 → MU → Prop} (hL20 : ∀ (x1 : Int32) (x2 : Int32) (x3 : Int32) (u : MU), L20 x1 x2 x3 u → WM p l e rm_X9_meanMoves s m args below meth c g 5 0 0 (vx_MQ below (zQd g (zPx W Q)) (zXC g (zXx W X)) args s 1 6 (zA g)) 20 [(0, .ref (g.2.2.1 0)), (1, .int x1), (2, .int x2), (3, .int x3)] [] (u, W)) (x1 : Int32) (x2 : Int32) (x3 : Int32) (u : MU) (h : wb_X9_meanMoves_61 L20  Q X x1 x2 x3 u) : WM p l e rm_X9_meanMoves s m args below meth c g 5 0 0 (vx_MQ below (zQd g (zPx W Q)) (zXC g (zXx W X)) args s 1 6 (zA g)) 61 [(0, .ref (g.2.2.1 0)), (1, .int x1), (2, .int x2), (3, .int x3)] [] (u, W) := by
  unfold wb_X9_meanMoves_61 at h
  obtain ⟨x3_1, hx3_1⟩ : ∃ z, z = x3 + (1 : Int32) := ⟨_, rfl⟩
  have h := h x3_1 hx3_1
  refine zm_iinc (v := x3_1) (lv' := [(3, .int x3_1), (0, .ref (g.2.2.1 0)), (1, .int x1), (2, .int x2)]) C dX9_meanMoves_61 3 rfl (by rw [hx3_1]; rfl) (by decide) rfl ?_
  refine zm_goto (tgt := 20) C dX9_meanMoves_64 (by decide) ?_
  exact zm_sub [1, 2, 3, 0] rfl (hL20 _ _ _ _ h)
def wl_X9_meanMoves_20 (Q : UInt64 → MU → Prop) (X : String → MU → Prop) : Nat → Int32 → Int32 → Int32 → MU → Prop
  | 0, _, _, _, _ => False
  | n + 1, x1, x2, x3, u => (((u 95 0) ≤ x3) → ((¬ x2 = 0) → vf_n64 (FP.ddiv (FP.i2d x1) (FP.i2d x2)) ∧ (Q (FP.ddiv (FP.i2d x1) (FP.i2d x2)) u)) ∧ ((x2 = 0) → X "java/lang/ArithmeticException" u)) ∧ ((¬ (u 95 0) ≤ x3) → w_X7_positionAt 95 u x3 (fun r_4 => w_X7_inMoves 95 u r_4 (fun r_6 => ((r_6 < 0) → wb_X9_meanMoves_61 (fun x1' x2' x3' u' => wl_X9_meanMoves_20  Q X n x1' x2' x3' u')  Q X x1 x2 x3 u) ∧ ((¬ r_6 < 0) → ∀ x1_9, x1_9 = (x1 + r_6) → ∀ x2_10, x2_10 = x2 + (1 : Int32) → wb_X9_meanMoves_61 (fun x1' x2' x3' u' => wl_X9_meanMoves_20  Q X n x1' x2' x3' u')  Q X x1_9 x2_10 x3 u))))
set_option maxHeartbeats 4000000 in
set_option maxRecDepth 100000 in
theorem vl_X9_meanMoves_20 {p : Program} {l : Launch} {e : Env} {s : State} {m : MethodId} {args : Array Value} {below : List Frame} {meth : Method} {c : Code} {g : GE} {W : MU × ((Nat → Int64) × (Nat → UInt64))} {Q : UInt64 → MU → Prop} {X : String → MU → Prop} (C : zCx p l s m args meth c g RX9 cX9_meanMoves 5) (hr : meth.sig.returnType = (Option.some Jvm.ClassFile.FieldType.double)) (hstk : l.stackTraces = false) (ht : ∀ x ∈ c.exceptionTable.toList, False) : ∀ (n : Nat) (x1 : Int32) (x2 : Int32) (x3 : Int32) (u : MU) , wl_X9_meanMoves_20   Q X n x1 x2 x3 u → WM p l e rm_X9_meanMoves s m args below meth c g 5 0 0 (vx_MQ below (zQd g (zPx W Q)) (zXC g (zXx W X)) args s 1 6 (zA g)) 20 [(0, .ref (g.2.2.1 0)), (1, .int x1), (2, .int x2), (3, .int x3)] [] (u, W) := by
  intro n
  induction n with
  | zero => intro _ _ _ _ h; exact h.elim
  | succ n ih =>
    intro x1 x2 x3 u h
    unfold wl_X9_meanMoves_20 at h
    refine zm_iload_n C dX9_meanMoves_20 rfl 3 rfl ?_
    refine zm_aload_n C dX9_meanMoves_21 rfl 0 rfl ?_
    refine gf_RX9_39 (k1 := 95) C kd_0 rfl dX9_meanMoves_22 ?_
    refine gf_RX9_228 C kd_95 dX9_meanMoves_25 ?_
    refine zm_icmp_ge (tgt := 67) C dX9_meanMoves_28 (by decide) (fun hc_1 => ?_) (fun hc_1 => ?_)
    · have h := h.1 hc_1
      refine zm_iload_n C dX9_meanMoves_67 rfl 2 rfl ?_
      refine zm_if_ne (tgt := 82) C dX9_meanMoves_68 (by decide) (fun hc_2 => ?_) (fun hc_2 => ?_)
      · have h := h.1 hc_2
        refine zm_iload_n C dX9_meanMoves_82 rfl 1 rfl ?_
        refine zm_i2d C dX9_meanMoves_83 ?_
        refine zm_iload_n C dX9_meanMoves_84 rfl 2 rfl ?_
        refine zm_i2d C dX9_meanMoves_85 ?_
        obtain ⟨hg_3, h⟩ := h
        refine zm_ddiv C dX9_meanMoves_86 hg_3 ?_
        refine zm_vx (by decide) (by decide) ?_
        exact zm_dret C hr dX9_meanMoves_87 ⟨_, rfl, h⟩
      · have h := h.2 hc_2
        exact zm_throwW (names := ["java/lang/RuntimeException", "java/lang/Exception"]) C hstk fit_ArithmeticException fit_names wd_929 wd_26 (is := 312) (text := "no position is won or lost") (by decide) hat_ArithmeticException_314 hgd_ArithmeticException_314_310 dX9_meanMoves_71 dX9_meanMoves_74 dX9_meanMoves_75 dX9_meanMoves_78 dX9_meanMoves_81 ht (Nat.le_of_ble_eq_true rfl) (Nat.le_of_ble_eq_true rfl) (Nat.le_of_ble_eq_true rfl) (Nat.le_of_ble_eq_true rfl) (Nat.le_of_ble_eq_true rfl) (Nat.le_of_ble_eq_true rfl) ⟨_, rfl, h⟩
    · have h := h.2 hc_1
      refine zm_aload_n C dX9_meanMoves_31 rfl 0 rfl ?_
      refine gf_RX9_39 (k1 := 95) C kd_0 rfl dX9_meanMoves_32 ?_
      refine zm_aload_n C dX9_meanMoves_35 rfl 0 rfl ?_
      refine gf_RX9_39 (k1 := 95) C kd_0 rfl dX9_meanMoves_36 ?_
      refine zm_iload_n C dX9_meanMoves_39 rfl 3 rfl ?_
      refine zm_ci (zr_V (As := [.int x3]) (rest := [.ref (g.2.2.1 95)]) C (c_X7_positionAt l g u W 95 kd_95 x3 h) wd_683 wd_684 wd_685 wd_6 wd_686 hy_X7_positionAt rfl rfl ⟨by decide, by decide⟩ ⟨by decide, by decide⟩ (ci := 7) (by decide) (zCell_k kd_95) rfl rfl rfl rfl (Nat.le_of_ble_eq_true rfl) dX9_meanMoves_40) (fun r_4 M1 hq => ?_)
      obtain ⟨rfl, h⟩ := hq
      refine zm_ci (zr_V (As := [.int r_4]) (rest := []) C (c_X7_inMoves l g u W 95 kd_95 r_4 h) wd_839 wd_840 wd_841 wd_6 wd_842 hy_X7_inMoves rfl rfl ⟨by decide, by decide⟩ ⟨by decide, by decide⟩ (ci := 7) (by decide) (zCell_k kd_95) rfl rfl rfl rfl (Nat.le_of_ble_eq_true rfl) dX9_meanMoves_43) (fun r_6 M1 hq => ?_)
      obtain ⟨rfl, h⟩ := hq
      refine zm_istore (lv' := [(4, .int r_6), (0, .ref (g.2.2.1 0)), (1, .int x1), (2, .int x2), (3, .int x3)]) C dX9_meanMoves_46 (by decide) rfl ?_
      refine zm_iload C dX9_meanMoves_48 0 rfl ?_
      refine zm_if_lt (tgt := 61) C dX9_meanMoves_50 (by decide) (fun hc_8 => ?_) (fun hc_8 => ?_)
      · have h := h.1 hc_8
        exact zm_sub [1, 2, 3, 4] rfl (vb_X9_meanMoves_61 C hr hstk ht ih _ _ _ _ h)
      · have h := h.2 hc_8
        refine zm_iload_n C dX9_meanMoves_53 rfl 2 rfl ?_
        refine zm_iload C dX9_meanMoves_54 0 rfl ?_
        refine zm_iadd C dX9_meanMoves_56 ?_
        refine zm_nmI (fun x1_9 hx1_9 => ?_)
        have h := h x1_9 hx1_9
        refine zm_istore_n (lv' := [(1, .int x1_9), (4, .int r_6), (0, .ref (g.2.2.1 0)), (2, .int x2), (3, .int x3)]) C dX9_meanMoves_57 rfl (by decide) rfl ?_
        obtain ⟨x2_10, hx2_10⟩ : ∃ z, z = x2 + (1 : Int32) := ⟨_, rfl⟩
        have h := h x2_10 hx2_10
        refine zm_iinc (v := x2_10) (lv' := [(2, .int x2_10), (1, .int x1_9), (4, .int r_6), (0, .ref (g.2.2.1 0)), (3, .int x3)]) C dX9_meanMoves_58 3 rfl (by rw [hx2_10]; rfl) (by decide) rfl ?_
        exact zm_sub [3, 1, 0, 4] rfl (vb_X9_meanMoves_61 C hr hstk ht ih _ _ _ _ h)
def w_X9_meanMoves (u : MU) (Q : UInt64 → MU → Prop) (X : String → MU → Prop) : Prop := w_X7_solve 95 2 u (fun u_2 => ∃ nn, wl_X9_meanMoves_20   Q X nn (0 : Int32) (0 : Int32) (0 : Int32) u_2)
set_option maxHeartbeats 4000000 in
set_option maxRecDepth 100000 in
theorem c_X9_meanMoves (l : Launch) (hstk : l.stackTraces = false) (g : GE) (u : MU) (W : MU × ((Nat → Int64) × (Nat → UInt64))) {Q : UInt64 → MU → Prop} {X : String → MU → Prop} (h : w_X9_meanMoves u Q X) : vx_Met l yX9_meanMoves (.code yX9_meanMoves cX9_meanMoves 5 (Option.some Jvm.ClassFile.FieldType.double) :: TB) rm_X9_meanMoves (zPc g (u, W) [.ref (g.2.2.1 0)]) (zQd g (zPx W Q)) (zXC g (zXx W X)) 1 6 (zA g) := by
  unfold w_X9_meanMoves at h
  refine zMetX (own := RX9) [(0, .ref (g.2.2.1 0))] (by decide +kernel) rfl (Nat.le_of_ble_eq_true rfl) rfl (fun p e s m args below meth c C hr ht => ?_)
  refine zm_aload_n C dX9_meanMoves_0 rfl 0 rfl ?_
  refine gf_RX9_39 (k1 := 95) C kd_0 rfl dX9_meanMoves_1 ?_
  refine zm_aload_n C dX9_meanMoves_4 rfl 0 rfl ?_
  refine gf_RX9_10 (k1 := 1) C kd_0 rfl dX9_meanMoves_5 ?_
  refine gf_RX9_138 (k1 := 2) C kd_1 rfl dX9_meanMoves_8 ?_
  refine zm_cv (zr_V (As := [.ref (g.2.2.1 2)]) (rest := []) C (c_X7_solve l g u W 95 2 kd_95 kd_2 h) wd_594 wd_595 wd_596 wd_6 wd_597 hy_X7_solve rfl rfl ⟨by decide, by decide⟩ ⟨by decide, by decide⟩ (ci := 7) (by decide) (zCell_k kd_95) rfl rfl rfl rfl (Nat.le_of_ble_eq_true rfl) dX9_meanMoves_11) (fun M1 hq => ?_)
  obtain ⟨u_2, rfl, h⟩ := hq
  refine zm_iconst (v := 0) C dX9_meanMoves_14 (by decide) ?_
  refine zm_istore_n (lv' := [(1, .int (0 : Int32)), (0, .ref (g.2.2.1 0))]) C dX9_meanMoves_15 rfl (by decide) rfl ?_
  refine zm_iconst (v := 0) C dX9_meanMoves_16 (by decide) ?_
  refine zm_istore_n (lv' := [(2, .int (0 : Int32)), (1, .int (0 : Int32)), (0, .ref (g.2.2.1 0))]) C dX9_meanMoves_17 rfl (by decide) rfl ?_
  refine zm_iconst (v := 0) C dX9_meanMoves_18 (by decide) ?_
  refine zm_istore_n (lv' := [(3, .int (0 : Int32)), (2, .int (0 : Int32)), (1, .int (0 : Int32)), (0, .ref (g.2.2.1 0))]) C dX9_meanMoves_19 rfl (by decide) rfl ?_
  obtain ⟨nn, h⟩ := h
  exact zm_sub [3, 2, 1, 0] rfl (vl_X9_meanMoves_20 C hr hstk ht  nn _ _ _ _ h)
abbrev rm_X9_drawn : Room := { frames := 6, cells := 1, slots := 6, locals := 130 }
def w_X9_drawn (u : MU) (Q : UInt32 → MU → Prop) (X : String → MU → Prop) : Prop := w_X7_solve 95 2 u (fun u_2 => ((¬ (u_2 95 0) = 0) → w_X9_positionsIn (-1 : Int32) u_2 (fun r_4 u_5 => vf_n32 (FP.fdiv (FP.i2f r_4) (FP.i2f (u_5 95 0))) ∧ (Q (FP.fdiv (FP.i2f r_4) (FP.i2f (u_5 95 0))) u_5))) ∧ (((u_2 95 0) = 0) → X "java/lang/ArithmeticException" u_2))
set_option maxHeartbeats 4000000 in
set_option maxRecDepth 100000 in
theorem c_X9_drawn (l : Launch) (hstk : l.stackTraces = false) (g : GE) (u : MU) (W : MU × ((Nat → Int64) × (Nat → UInt64))) {Q : UInt32 → MU → Prop} {X : String → MU → Prop} (h : w_X9_drawn u Q X) : vx_Met l yX9_drawn (.code yX9_drawn cX9_drawn 1 (Option.some Jvm.ClassFile.FieldType.float) :: TB) rm_X9_drawn (zPc g (u, W) [.ref (g.2.2.1 0)]) (zQf g (zPx W Q)) (zXC g (zXx W X)) 1 6 (zA g) := by
  unfold w_X9_drawn at h
  refine zMetX (own := RX9) [(0, .ref (g.2.2.1 0))] (by decide +kernel) rfl (Nat.le_of_ble_eq_true rfl) rfl (fun p e s m args below meth c C hr ht => ?_)
  refine zm_aload_n C dX9_drawn_0 rfl 0 rfl ?_
  refine gf_RX9_39 (k1 := 95) C kd_0 rfl dX9_drawn_1 ?_
  refine zm_aload_n C dX9_drawn_4 rfl 0 rfl ?_
  refine gf_RX9_10 (k1 := 1) C kd_0 rfl dX9_drawn_5 ?_
  refine gf_RX9_138 (k1 := 2) C kd_1 rfl dX9_drawn_8 ?_
  refine zm_cv (zr_V (As := [.ref (g.2.2.1 2)]) (rest := []) C (c_X7_solve l g u W 95 2 kd_95 kd_2 h) wd_594 wd_595 wd_596 wd_6 wd_597 hy_X7_solve rfl rfl ⟨by decide, by decide⟩ ⟨by decide, by decide⟩ (ci := 7) (by decide) (zCell_k kd_95) rfl rfl rfl rfl (Nat.le_of_ble_eq_true rfl) dX9_drawn_11) (fun M1 hq => ?_)
  obtain ⟨u_2, rfl, h⟩ := hq
  refine zm_aload_n C dX9_drawn_14 rfl 0 rfl ?_
  refine gf_RX9_39 (k1 := 95) C kd_0 rfl dX9_drawn_15 ?_
  refine gf_RX9_228 C kd_95 dX9_drawn_18 ?_
  refine zm_if_ne (tgt := 35) C dX9_drawn_21 (by decide) (fun hc_3 => ?_) (fun hc_3 => ?_)
  · have h := h.1 hc_3
    refine zm_aload_n C dX9_drawn_35 rfl 0 rfl ?_
    refine zm_iconst (v := -1) C dX9_drawn_36 (by decide) ?_
    refine zm_ci (zr_V (As := [.int (-1 : Int32)]) (rest := []) C (c_X9_positionsIn l g u_2 W (-1 : Int32) h) wd_835 wd_837 wp_26 wd_1 wd_838 hy_X9_positionsIn rfl rfl ⟨by decide, by decide⟩ ⟨by decide, by decide⟩ (ci := 9) (by decide) (zCell_k kd_0) rfl rfl rfl rfl (Nat.le_of_ble_eq_true rfl) dX9_drawn_37) (fun r_4 M1 hq => ?_)
    obtain ⟨u_5, rfl, h⟩ := hq
    refine zm_i2f C dX9_drawn_40 ?_
    refine zm_aload_n C dX9_drawn_41 rfl 0 rfl ?_
    refine gf_RX9_39 (k1 := 95) C kd_0 rfl dX9_drawn_42 ?_
    refine gf_RX9_228 C kd_95 dX9_drawn_45 ?_
    refine zm_i2f C dX9_drawn_48 ?_
    obtain ⟨hg_6, h⟩ := h
    refine zm_fdiv C dX9_drawn_49 hg_6 ?_
    refine zm_vx (by decide) (by decide) ?_
    exact zm_fret C hr dX9_drawn_50 ⟨_, rfl, h⟩
  · have h := h.2 hc_3
    exact zm_throwW (names := ["java/lang/RuntimeException", "java/lang/Exception"]) C hstk fit_ArithmeticException fit_names wd_929 wd_26 (is := 315) (text := "there are no positions") (by decide) hat_ArithmeticException_314 hgd_ArithmeticException_314_310 dX9_drawn_24 dX9_drawn_27 dX9_drawn_28 dX9_drawn_31 dX9_drawn_34 ht (Nat.le_of_ble_eq_true rfl) (Nat.le_of_ble_eq_true rfl) (Nat.le_of_ble_eq_true rfl) (Nat.le_of_ble_eq_true rfl) (Nat.le_of_ble_eq_true rfl) (Nat.le_of_ble_eq_true rfl) ⟨_, rfl, h⟩
abbrev rm_X9_accountOfPositions : Room := { frames := 5, cells := 0, slots := 0, locals := 130 }
def wl_X9_accountOfPositions_42 (Q : Int32 → MU → Prop) : Nat → Int32 → Int32 → MU → Prop
  | 0, _, _, _ => False
  | n + 1, x2, x3, u => (((u 95 0) ≤ x3) → Q x2 u) ∧ ((¬ (u 95 0) ≤ x3) → w_X7_positionAt 95 u x3 (fun r_2 => w_X7_inMoves 95 u r_2 (fun r_4 => ∀ x2_6, x2_6 = (if x2 < r_4 then r_4 else x2) → ∀ x3_7, x3_7 = x3 + (1 : Int32) → wl_X9_accountOfPositions_42   Q n x2_6 x3_7 u)))
set_option maxHeartbeats 4000000 in
set_option maxRecDepth 100000 in
theorem vl_X9_accountOfPositions_42 {p : Program} {l : Launch} {e : Env} {s : State} {m : MethodId} {args : Array Value} {below : List Frame} {meth : Method} {c : Code} {g : GE} {W : MU × ((Nat → Int64) × (Nat → UInt64))} {Q : Int32 → MU → Prop} (C : zCx p l s m args meth c g RX9 cX9_accountOfPositions 4) (hr : meth.sig.returnType = (Option.some Jvm.ClassFile.FieldType.int)) : ∀ (n : Nat) (x2 : Int32) (x3 : Int32) (u : MU) , wl_X9_accountOfPositions_42   Q n x2 x3 u → WM p l e rm_X9_accountOfPositions s m args below meth c g 4 0 0 (MQ below (zQi g (zPx W Q)) args s 0 0 (zA g)) 42 [(0, .ref (g.2.2.1 0)), (2, .int x2), (3, .int x3)] [] (u, W) := by
  intro n
  induction n with
  | zero => intro _ _ _ h; exact h.elim
  | succ n ih =>
    intro x2 x3 u h
    unfold wl_X9_accountOfPositions_42 at h
    refine zm_iload_n C dX9_accountOfPositions_42 rfl 2 rfl ?_
    refine zm_aload_n C dX9_accountOfPositions_43 rfl 0 rfl ?_
    refine gf_RX9_39 (k1 := 95) C kd_0 rfl dX9_accountOfPositions_44 ?_
    refine gf_RX9_228 C kd_95 dX9_accountOfPositions_47 ?_
    refine zm_icmp_ge (tgt := 79) C dX9_accountOfPositions_50 (by decide) (fun hc_1 => ?_) (fun hc_1 => ?_)
    · have h := h.1 hc_1
      refine zm_iload_n C dX9_accountOfPositions_79 rfl 1 rfl ?_
      exact zm_iret C hr dX9_accountOfPositions_80 ⟨_, rfl, h⟩
    · have h := h.2 hc_1
      refine zm_iload_n C dX9_accountOfPositions_53 rfl 1 rfl ?_
      refine zm_aload_n C dX9_accountOfPositions_54 rfl 0 rfl ?_
      refine gf_RX9_39 (k1 := 95) C kd_0 rfl dX9_accountOfPositions_55 ?_
      refine zm_aload_n C dX9_accountOfPositions_58 rfl 0 rfl ?_
      refine gf_RX9_39 (k1 := 95) C kd_0 rfl dX9_accountOfPositions_59 ?_
      refine zm_iload_n C dX9_accountOfPositions_62 rfl 2 rfl ?_
      refine zm_ci (zr_V (As := [.int x3]) (rest := [.ref (g.2.2.1 95), .int x2]) C (c_X7_positionAt l g u W 95 kd_95 x3 h) wd_683 wd_684 wd_685 wd_6 wd_686 hy_X7_positionAt rfl rfl ⟨by decide, by decide⟩ ⟨by decide, by decide⟩ (ci := 7) (by decide) (zCell_k kd_95) rfl rfl rfl rfl (Nat.le_of_ble_eq_true rfl) dX9_accountOfPositions_63) (fun r_2 M1 hq => ?_)
      obtain ⟨rfl, h⟩ := hq
      refine zm_ci (zr_V (As := [.int r_2]) (rest := [.int x2]) C (c_X7_inMoves l g u W 95 kd_95 r_2 h) wd_839 wd_840 wd_841 wd_6 wd_842 hy_X7_inMoves rfl rfl ⟨by decide, by decide⟩ ⟨by decide, by decide⟩ (ci := 7) (by decide) (zCell_k kd_95) rfl rfl rfl rfl (Nat.le_of_ble_eq_true rfl) dX9_accountOfPositions_66) (fun r_4 M1 hq => ?_)
      obtain ⟨rfl, h⟩ := hq
      refine zm_mmax C wd_676 wd_677 wd_15 wd_678 (Nat.le_of_ble_eq_true rfl) (Nat.le_of_ble_eq_true rfl) (Nat.le_of_ble_eq_true rfl) (Nat.le_of_ble_eq_true rfl) dX9_accountOfPositions_69 ?_
      refine zm_nmI (fun x2_6 hx2_6 => ?_)
      have h := h x2_6 hx2_6
      refine zm_istore_n (lv' := [(2, .int x2_6), (0, .ref (g.2.2.1 0)), (3, .int x3)]) C dX9_accountOfPositions_72 rfl (by decide) rfl ?_
      obtain ⟨x3_7, hx3_7⟩ : ∃ z, z = x3 + (1 : Int32) := ⟨_, rfl⟩
      have h := h x3_7 hx3_7
      refine zm_iinc (v := x3_7) (lv' := [(3, .int x3_7), (2, .int x2_6), (0, .ref (g.2.2.1 0))]) C dX9_accountOfPositions_73 2 rfl (by rw [hx3_7]; rfl) (by decide) rfl ?_
      refine zm_goto (tgt := 42) C dX9_accountOfPositions_76 (by decide) ?_
      exact zm_sub [2, 1, 0] rfl (ih _ _ _ h)
def w_X9_accountOfPositions (x1 : Int32) (u : MU) (Q : Int32 → MU → Prop) : Prop := ((¬ x1 = (5 : Int32)) → w_X7_solve 95 2 u (fun u_3 => ((¬ x1 = (4 : Int32)) → ∃ nn, wl_X9_accountOfPositions_42   Q nn (-1 : Int32) (0 : Int32) u_3) ∧ ((x1 = (4 : Int32)) → Q (u_3 95 0) u_3))) ∧ ((x1 = (5 : Int32)) → w_X9_positionsIn (0 : Int32) u (fun r_5 u_6 => Q r_5 u_6))
set_option maxHeartbeats 4000000 in
set_option maxRecDepth 100000 in
theorem c_X9_accountOfPositions (l : Launch) (g : GE) (u : MU) (W : MU × ((Nat → Int64) × (Nat → UInt64))) (x1 : Int32) {Q : Int32 → MU → Prop} (h : w_X9_accountOfPositions x1 u Q) : Met l yX9_accountOfPositions (.code yX9_accountOfPositions cX9_accountOfPositions 4 (Option.some Jvm.ClassFile.FieldType.int) :: TB) rm_X9_accountOfPositions (zPc g (u, W) [.ref (g.2.2.1 0), .int x1]) (zQi g (zPx W Q)) 0 0 (zA g) := by
  unfold w_X9_accountOfPositions at h
  refine zMet (own := RX9) [(0, .ref (g.2.2.1 0)), (1, .int x1)] (by decide +kernel) rfl (Nat.le_of_ble_eq_true rfl) rfl (fun p e s m args below meth c C hr => ?_)
  refine zm_iload_n C dX9_accountOfPositions_0 rfl 1 rfl ?_
  refine zm_iconst (v := 5) C dX9_accountOfPositions_1 (by decide) ?_
  refine zm_icmp_ne (tgt := 11) C dX9_accountOfPositions_2 (by decide) (fun hc_1 => ?_) (fun hc_1 => ?_)
  · have h := h.1 hc_1
    refine zm_aload_n C dX9_accountOfPositions_11 rfl 0 rfl ?_
    refine gf_RX9_39 (k1 := 95) C kd_0 rfl dX9_accountOfPositions_12 ?_
    refine zm_aload_n C dX9_accountOfPositions_15 rfl 0 rfl ?_
    refine gf_RX9_10 (k1 := 1) C kd_0 rfl dX9_accountOfPositions_16 ?_
    refine gf_RX9_138 (k1 := 2) C kd_1 rfl dX9_accountOfPositions_19 ?_
    refine zm_cv (zr_V (As := [.ref (g.2.2.1 2)]) (rest := []) C (c_X7_solve l g u W 95 2 kd_95 kd_2 h) wd_594 wd_595 wd_596 wd_6 wd_597 hy_X7_solve rfl rfl ⟨by decide, by decide⟩ ⟨by decide, by decide⟩ (ci := 7) (by decide) (zCell_k kd_95) rfl rfl rfl rfl (Nat.le_of_ble_eq_true rfl) dX9_accountOfPositions_22) (fun M1 hq => ?_)
    obtain ⟨u_3, rfl, h⟩ := hq
    refine zm_iload_n C dX9_accountOfPositions_25 rfl 1 rfl ?_
    refine zm_iconst (v := 4) C dX9_accountOfPositions_26 (by decide) ?_
    refine zm_icmp_ne (tgt := 38) C dX9_accountOfPositions_27 (by decide) (fun hc_4 => ?_) (fun hc_4 => ?_)
    · have h := h.1 hc_4
      refine zm_iconst (v := -1) C dX9_accountOfPositions_38 (by decide) ?_
      refine zm_istore_n (lv' := [(2, .int (-1 : Int32)), (0, .ref (g.2.2.1 0)), (1, .int x1)]) C dX9_accountOfPositions_39 rfl (by decide) rfl ?_
      refine zm_iconst (v := 0) C dX9_accountOfPositions_40 (by decide) ?_
      refine zm_istore_n (lv' := [(3, .int (0 : Int32)), (2, .int (-1 : Int32)), (0, .ref (g.2.2.1 0)), (1, .int x1)]) C dX9_accountOfPositions_41 rfl (by decide) rfl ?_
      obtain ⟨nn, h⟩ := h
      exact zm_sub [2, 1, 0] rfl (vl_X9_accountOfPositions_42 C hr  nn _ _ _ h)
    · have h := h.2 hc_4
      refine zm_aload_n C dX9_accountOfPositions_30 rfl 0 rfl ?_
      refine gf_RX9_39 (k1 := 95) C kd_0 rfl dX9_accountOfPositions_31 ?_
      refine gf_RX9_228 C kd_95 dX9_accountOfPositions_34 ?_
      exact zm_iret C hr dX9_accountOfPositions_37 ⟨_, rfl, h⟩
  · have h := h.2 hc_1
    refine zm_aload_n C dX9_accountOfPositions_5 rfl 0 rfl ?_
    refine zm_iconst (v := 0) C dX9_accountOfPositions_6 (by decide) ?_
    refine zm_ci (zr_V (As := [.int (0 : Int32)]) (rest := []) C (c_X9_positionsIn l g u W (0 : Int32) h) wd_835 wd_837 wp_26 wd_1 wd_838 hy_X9_positionsIn rfl rfl ⟨by decide, by decide⟩ ⟨by decide, by decide⟩ (ci := 9) (by decide) (zCell_k kd_0) rfl rfl rfl rfl (Nat.le_of_ble_eq_true rfl) dX9_accountOfPositions_7) (fun r_5 M1 hq => ?_)
    obtain ⟨u_6, rfl, h⟩ := hq
    exact zm_iret C hr dX9_accountOfPositions_10 ⟨_, rfl, h⟩
abbrev rm_X9_account : Room := { frames := 6, cells := 1, slots := 6, locals := 153 }
def wb_X9_account_10 (Q : Int32 → MU → Prop) (X : String → MU → Prop) (u : MU) : Prop := X "java/lang/IllegalArgumentException" u
set_option maxHeartbeats 4000000 in
set_option maxRecDepth 100000 in
theorem vb_X9_account_10 {p : Program} {l : Launch} {e : Env} {s : State} {m : MethodId} {args : Array Value} {below : List Frame} {meth : Method} {c : Code} {g : GE} {W : MU × ((Nat → Int64) × (Nat → UInt64))} {Q : Int32 → MU → Prop} {X : String → MU → Prop} (C : zCx p l s m args meth c g RX9 cX9_account 2) (hr : meth.sig.returnType = (Option.some Jvm.ClassFile.FieldType.int)) (hstk : l.stackTraces = false) (ht : ∀ x ∈ c.exceptionTable.toList, False) (u : MU) (h : wb_X9_account_10   Q X  u) : WM p l e rm_X9_account s m args below meth c g 2 0 0 (vx_MQ below (zQi g (zPx W Q)) (zXC g (zXx W X)) args s 1 6 (zA g)) 10 [] [] (u, W) := by
  unfold wb_X9_account_10 at h
  exact zm_throwW (names := ["java/lang/RuntimeException", "java/lang/Exception"]) C hstk fit_IllegalArgumentException fit_names wd_560 wd_18 (is := 317) (text := "what is not from 0 to 10") (by decide) hat_IllegalArgumentException_155 hgd_IllegalArgumentException_155_151 dX9_account_10 dX9_account_13 dX9_account_14 dX9_account_17 dX9_account_20 ht (Nat.le_of_ble_eq_true rfl) (Nat.le_of_ble_eq_true rfl) (Nat.le_of_ble_eq_true rfl) (Nat.le_of_ble_eq_true rfl) (Nat.le_of_ble_eq_true rfl) (Nat.le_of_ble_eq_true rfl) ⟨_, rfl, h⟩
set_option maxHeartbeats 4000000 in
theorem zs_X9_account_22 {p : Program} {l : Launch} {e : Env} {R : Room} {s : State} {m : MethodId} {args : Array Value} {below : List Frame} {meth : Method} {c : Code} {g : GE} {cells slots : Nat} {Q : State → Prop} {lv : List (Nat × Value)} {st : List Value} {M : Mem} (C : zCx p l s m args meth c g RX9 cX9_account 2) {x : Int32} (h : ¬ x.toInt = 0 ∧ ¬ x.toInt = 1 ∧ ¬ x.toInt = 2 ∧ ¬ x.toInt = 3 ∧ ¬ x.toInt = 7 ∧ ¬ x.toInt = 8 ∧ ¬ x.toInt = 9 ∧ ¬ x.toInt = 10) (k : WM p l e R s m args below meth c g 2 cells slots Q 179 lv st M) : WM p l e R s m args below meth c g 2 cells slots Q 22 lv (.int x :: st) M := by
  by_cases h1 : x.toInt < 0 ∨ 10 < x.toInt
  · exact zm_tableOut (tgt := 179) C dX9_account_22 h1 (by decide) k
  · have h2 : x.toInt = 4 ∨ x.toInt = 5 ∨ x.toInt = 6 := by omega
    rcases h2 with h2 | h2 | h2 <;> exact zm_tableIn (tgt := 179) C dX9_account_22 (by omega) (by omega) (by rw [h2]; rfl) (by decide) k
def w_X9_account (x1 : Int32) (u : MU) (Q : Int32 → MU → Prop) (X : String → MU → Prop) : Prop := ((x1 < 0) → wb_X9_account_10   Q X u) ∧ ((¬ x1 < 0) → ((x1 ≤ (10 : Int32)) → (x1 = (0 : Int32) → Q (u 2 0) u) ∧ (¬ x1 = (0 : Int32) → (x1 = (1 : Int32) → Q (u 2 1) u) ∧ (¬ x1 = (1 : Int32) → (x1 = (2 : Int32) → w_J6_bitCount_0f7a4 (u 2 2) (fun r_7 => Q r_7 u)) ∧ (¬ x1 = (2 : Int32) → (x1 = (3 : Int32) → Q (u 2 3) u) ∧ (¬ x1 = (3 : Int32) → (x1 = (7 : Int32) → (((u 6 0) = 0) → Q (-1 : Int32) u) ∧ ((¬ (u 6 0) = 0) → Q (u 6 1) u)) ∧ (¬ x1 = (7 : Int32) → (x1 = (8 : Int32) → Q (u 1 2) u) ∧ (¬ x1 = (8 : Int32) → (x1 = (9 : Int32) → Q (u 25 1) u) ∧ (¬ x1 = (9 : Int32) → (x1 = (10 : Int32) → Q (u 108 0) u) ∧ (¬ x1 = (10 : Int32) → w_X9_accountOfPositions x1 u (fun r_15 u_16 => Q r_15 u_16)))))))))) ∧ ((¬ x1 ≤ (10 : Int32)) → wb_X9_account_10   Q X u))
set_option maxHeartbeats 4000000 in
set_option maxRecDepth 100000 in
theorem c_X9_account (l : Launch) (hstk : l.stackTraces = false) (g : GE) (u : MU) (W : MU × ((Nat → Int64) × (Nat → UInt64))) (x1 : Int32) {Q : Int32 → MU → Prop} {X : String → MU → Prop} (h : w_X9_account x1 u Q X) : vx_Met l yX9_account (.code yX9_account cX9_account 2 (Option.some Jvm.ClassFile.FieldType.int) :: TB) rm_X9_account (zPc g (u, W) [.ref (g.2.2.1 0), .int x1]) (zQi g (zPx W Q)) (zXC g (zXx W X)) 1 6 (zA g) := by
  unfold w_X9_account at h
  refine zMetX (own := RX9) [(0, .ref (g.2.2.1 0)), (1, .int x1)] (by decide +kernel) rfl (Nat.le_of_ble_eq_true rfl) rfl (fun p e s m args below meth c C hr ht => ?_)
  refine zm_iload_n C dX9_account_0 rfl 1 rfl ?_
  refine zm_if_lt (tgt := 10) C dX9_account_1 (by decide) (fun hc_1 => ?_) (fun hc_1 => ?_)
  · have h := h.1 hc_1
    exact zm_sub [] rfl (vb_X9_account_10 C hr hstk ht  _ h)
  · have h := h.2 hc_1
    refine zm_iload_n C dX9_account_4 rfl 1 rfl ?_
    refine zm_bipush (v := 10) C dX9_account_5 (by decide) ?_
    refine zm_icmp_le (tgt := 21) C dX9_account_7 (by decide) (fun hc_2 => ?_) (fun hc_2 => ?_)
    · have h := h.1 hc_2
      refine zm_iload_n C dX9_account_21 rfl 1 rfl ?_
      by_cases hc_4 : x1 = (0 : Int32)
      · have h := h.1 hc_4
        refine zm_tableIn (tgt := 80) C dX9_account_22 (by rw [hc_4]; decide) (by rw [hc_4]; decide) (by rw [hc_4]; rfl) (by decide) ?_
        refine zm_aload_n C dX9_account_80 rfl 0 rfl ?_
        refine gf_RX9_10 (k1 := 1) C kd_0 rfl dX9_account_81 ?_
        refine gf_RX9_138 (k1 := 2) C kd_1 rfl dX9_account_84 ?_
        refine gf_RX9_265 C kd_2 dX9_account_87 ?_
        refine zm_vx (by decide) (by decide) ?_
        exact zm_iret C hr dX9_account_90 ⟨_, rfl, h⟩
      · have h := h.2 hc_4
        by_cases hc_5 : x1 = (1 : Int32)
        · have h := h.1 hc_5
          refine zm_tableIn (tgt := 91) C dX9_account_22 (by rw [hc_5]; decide) (by rw [hc_5]; decide) (by rw [hc_5]; rfl) (by decide) ?_
          refine zm_aload_n C dX9_account_91 rfl 0 rfl ?_
          refine gf_RX9_10 (k1 := 1) C kd_0 rfl dX9_account_92 ?_
          refine gf_RX9_138 (k1 := 2) C kd_1 rfl dX9_account_95 ?_
          refine gf_RX9_299 C kd_2 dX9_account_98 ?_
          refine zm_vx (by decide) (by decide) ?_
          exact zm_iret C hr dX9_account_101 ⟨_, rfl, h⟩
        · have h := h.2 hc_5
          by_cases hc_6 : x1 = (2 : Int32)
          · have h := h.1 hc_6
            refine zm_tableIn (tgt := 102) C dX9_account_22 (by rw [hc_6]; decide) (by rw [hc_6]; decide) (by rw [hc_6]; rfl) (by decide) ?_
            refine zm_aload_n C dX9_account_102 rfl 0 rfl ?_
            refine gf_RX9_10 (k1 := 1) C kd_0 rfl dX9_account_103 ?_
            refine gf_RX9_138 (k1 := 2) C kd_1 rfl dX9_account_106 ?_
            refine gf_RX9_319 C kd_2 dX9_account_109 ?_
            refine zm_ci (zr_Sx (As := [.int (u 2 2)]) (rest := []) C (c_J6_bitCount_0f7a4 l g (u, W) (u 2 2) h) wd_577 wd_578 wd_20 wd_579 hz_J6_bitCount_0f7a4 rfl rfl ⟨by decide, by decide⟩ ⟨by decide, by decide⟩ rfl rfl (Nat.le_of_ble_eq_true rfl) dX9_account_112) (fun r_7 M1 hq => ?_)
            obtain ⟨rfl, h⟩ := hq
            refine zm_vx (by decide) (by decide) ?_
            exact zm_iret C hr dX9_account_115 ⟨_, rfl, h⟩
          · have h := h.2 hc_6
            by_cases hc_9 : x1 = (3 : Int32)
            · have h := h.1 hc_9
              refine zm_tableIn (tgt := 116) C dX9_account_22 (by rw [hc_9]; decide) (by rw [hc_9]; decide) (by rw [hc_9]; rfl) (by decide) ?_
              refine zm_aload_n C dX9_account_116 rfl 0 rfl ?_
              refine gf_RX9_10 (k1 := 1) C kd_0 rfl dX9_account_117 ?_
              refine gf_RX9_138 (k1 := 2) C kd_1 rfl dX9_account_120 ?_
              refine gf_RX9_322 C kd_2 dX9_account_123 ?_
              refine zm_vx (by decide) (by decide) ?_
              exact zm_iret C hr dX9_account_126 ⟨_, rfl, h⟩
            · have h := h.2 hc_9
              by_cases hc_10 : x1 = (7 : Int32)
              · have h := h.1 hc_10
                refine zm_tableIn (tgt := 127) C dX9_account_22 (by rw [hc_10]; decide) (by rw [hc_10]; decide) (by rw [hc_10]; rfl) (by decide) ?_
                refine zm_aload_n C dX9_account_127 rfl 0 rfl ?_
                refine gf_RX9_10 (k1 := 1) C kd_0 rfl dX9_account_128 ?_
                refine gf_RX9_118 (k1 := 6) C kd_1 rfl dX9_account_131 ?_
                refine gf_RX9_122 C kd_6 dX9_account_134 ?_
                refine zm_if_eq (tgt := 153) C dX9_account_137 (by decide) (fun hc_11 => ?_) (fun hc_11 => ?_)
                · have h := h.1 hc_11
                  refine zm_iconst (v := -1) C dX9_account_153 (by decide) ?_
                  refine zm_vx (by decide) (by decide) ?_
                  exact zm_iret C hr dX9_account_154 ⟨_, rfl, h⟩
                · have h := h.2 hc_11
                  refine zm_aload_n C dX9_account_140 rfl 0 rfl ?_
                  refine gf_RX9_10 (k1 := 1) C kd_0 rfl dX9_account_141 ?_
                  refine gf_RX9_118 (k1 := 6) C kd_1 rfl dX9_account_144 ?_
                  refine gf_RX9_325 C kd_6 dX9_account_147 ?_
                  refine zm_goto (tgt := 154) C dX9_account_150 (by decide) ?_
                  refine zm_vx (by decide) (by decide) ?_
                  exact zm_iret C hr dX9_account_154 ⟨_, rfl, h⟩
              · have h := h.2 hc_10
                by_cases hc_12 : x1 = (8 : Int32)
                · have h := h.1 hc_12
                  refine zm_tableIn (tgt := 155) C dX9_account_22 (by rw [hc_12]; decide) (by rw [hc_12]; decide) (by rw [hc_12]; rfl) (by decide) ?_
                  refine zm_aload_n C dX9_account_155 rfl 0 rfl ?_
                  refine gf_RX9_10 (k1 := 1) C kd_0 rfl dX9_account_156 ?_
                  refine gf_RX9_328 C kd_1 dX9_account_159 ?_
                  refine zm_vx (by decide) (by decide) ?_
                  exact zm_iret C hr dX9_account_162 ⟨_, rfl, h⟩
                · have h := h.2 hc_12
                  by_cases hc_13 : x1 = (9 : Int32)
                  · have h := h.1 hc_13
                    refine zm_tableIn (tgt := 163) C dX9_account_22 (by rw [hc_13]; decide) (by rw [hc_13]; decide) (by rw [hc_13]; rfl) (by decide) ?_
                    refine zm_aload_n C dX9_account_163 rfl 0 rfl ?_
                    refine gf_RX9_25 (k1 := 25) C kd_0 rfl dX9_account_164 ?_
                    refine gf_RX9_331 C kd_25 dX9_account_167 ?_
                    refine zm_vx (by decide) (by decide) ?_
                    exact zm_iret C hr dX9_account_170 ⟨_, rfl, h⟩
                  · have h := h.2 hc_13
                    by_cases hc_14 : x1 = (10 : Int32)
                    · have h := h.1 hc_14
                      refine zm_tableIn (tgt := 171) C dX9_account_22 (by rw [hc_14]; decide) (by rw [hc_14]; decide) (by rw [hc_14]; rfl) (by decide) ?_
                      refine zm_aload_n C dX9_account_171 rfl 0 rfl ?_
                      refine gf_RX9_56 (k1 := 108) C kd_0 rfl dX9_account_172 ?_
                      refine gf_RX9_333 C kd_108 dX9_account_175 ?_
                      refine zm_vx (by decide) (by decide) ?_
                      exact zm_iret C hr dX9_account_178 ⟨_, rfl, h⟩
                    · have h := h.2 hc_14
                      have n0 := lv_neT (a := 0) hc_4 rfl
                      have n1 := lv_neT (a := 1) hc_5 rfl
                      have n2 := lv_neT (a := 2) hc_6 rfl
                      have n3 := lv_neT (a := 3) hc_9 rfl
                      have n4 := lv_neT (a := 7) hc_10 rfl
                      have n5 := lv_neT (a := 8) hc_12 rfl
                      have n6 := lv_neT (a := 9) hc_13 rfl
                      have n7 := lv_neT (a := 10) hc_14 rfl
                      refine zs_X9_account_22 C (by omega) ?_
                      refine zm_aload_n C dX9_account_179 rfl 0 rfl ?_
                      refine zm_iload_n C dX9_account_180 rfl 1 rfl ?_
                      refine zm_ci (zr_V (As := [.int x1]) (rest := []) C (c_X9_accountOfPositions l g u W x1 h) wd_831 wd_833 wp_25 wd_1 wd_834 hy_X9_accountOfPositions rfl rfl ⟨by decide, by decide⟩ ⟨by decide, by decide⟩ (ci := 9) (by decide) (zCell_k kd_0) rfl rfl rfl rfl (Nat.le_of_ble_eq_true rfl) dX9_account_181) (fun r_15 M1 hq => ?_)
                      obtain ⟨u_16, rfl, h⟩ := hq
                      refine zm_vx (by decide) (by decide) ?_
                      exact zm_iret C hr dX9_account_184 ⟨_, rfl, h⟩
    · have h := h.2 hc_2
      exact zm_sub [] rfl (vb_X9_account_10 C hr hstk ht  _ h)
abbrev rm_X9_append : Room := { frames := 6, cells := 1, slots := 6, locals := 90 }
def w_X9_append (x1 : Int32) (u : MU) (Q : Int32 → MU → Prop) (X : String → MU → Prop) : Prop := (((u 108 0) < (60 : Int32)) → w_X8_add 108 x1 u (fun u_3 => Q (u_3 108 0) u_3)) ∧ ((¬ (u 108 0) < (60 : Int32)) → X "java/lang/IllegalStateException" u)
set_option maxHeartbeats 4000000 in
set_option maxRecDepth 100000 in
theorem c_X9_append (l : Launch) (hstk : l.stackTraces = false) (g : GE) (u : MU) (W : MU × ((Nat → Int64) × (Nat → UInt64))) (x1 : Int32) {Q : Int32 → MU → Prop} {X : String → MU → Prop} (h : w_X9_append x1 u Q X) : vx_Met l yX9_append (.code yX9_append cX9_append 2 (Option.some Jvm.ClassFile.FieldType.int) :: TB) rm_X9_append (zPc g (u, W) [.ref (g.2.2.1 0), .int x1]) (zQi g (zPx W Q)) (zXC g (zXx W X)) 1 6 (zA g) := by
  unfold w_X9_append at h
  refine zMetX (own := RX9) [(0, .ref (g.2.2.1 0)), (1, .int x1)] (by decide +kernel) rfl (Nat.le_of_ble_eq_true rfl) rfl (fun p e s m args below meth c C hr ht => ?_)
  refine zm_aload_n C dX9_append_0 rfl 0 rfl ?_
  refine gf_RX9_56 (k1 := 108) C kd_0 rfl dX9_append_1 ?_
  refine gf_RX9_333 C kd_108 dX9_append_4 ?_
  refine zm_bipush (v := 60) C dX9_append_7 (by decide) ?_
  refine zm_icmp_lt (tgt := 23) C dX9_append_9 (by decide) (fun hc_1 => ?_) (fun hc_1 => ?_)
  · have h := h.1 hc_1
    refine zm_aload_n C dX9_append_23 rfl 0 rfl ?_
    refine gf_RX9_56 (k1 := 108) C kd_0 rfl dX9_append_24 ?_
    refine zm_iload_n C dX9_append_27 rfl 1 rfl ?_
    refine zm_cv (zr_V (As := [.int x1]) (rest := []) C (c_X8_add l g u W 108 kd_108 x1 h) wd_728 wd_729 wd_730 wd_8 wd_731 hy_X8_add rfl rfl ⟨by decide, by decide⟩ ⟨by decide, by decide⟩ (ci := 8) (by decide) (zCell_k kd_108) rfl rfl rfl rfl (Nat.le_of_ble_eq_true rfl) dX9_append_28) (fun M1 hq => ?_)
    obtain ⟨u_3, rfl, h⟩ := hq
    refine zm_aload_n C dX9_append_31 rfl 0 rfl ?_
    refine gf_RX9_56 (k1 := 108) C kd_0 rfl dX9_append_32 ?_
    refine gf_RX9_333 C kd_108 dX9_append_35 ?_
    refine zm_vx (by decide) (by decide) ?_
    exact zm_iret C hr dX9_append_38 ⟨_, rfl, h⟩
  · have h := h.2 hc_1
    exact zm_throwW (names := ["java/lang/RuntimeException", "java/lang/Exception"]) C hstk fit_IllegalStateException fit_names wd_712 wd_14 (is := 341) (text := "the buffer is full") (by decide) hat_IllegalStateException_343 hgd_IllegalStateException_343_339 dX9_append_12 dX9_append_15 dX9_append_16 dX9_append_19 dX9_append_22 ht (Nat.le_of_ble_eq_true rfl) (Nat.le_of_ble_eq_true rfl) (Nat.le_of_ble_eq_true rfl) (Nat.le_of_ble_eq_true rfl) (Nat.le_of_ble_eq_true rfl) (Nat.le_of_ble_eq_true rfl) ⟨_, rfl, h⟩
abbrev rm_X9_carriedOut : Room := { frames := 5, cells := 0, slots := 0, locals := 132 }
set_option maxHeartbeats 4000000 in
theorem zs_X9_carriedOut_35 {p : Program} {l : Launch} {e : Env} {R : Room} {s : State} {m : MethodId} {args : Array Value} {below : List Frame} {meth : Method} {c : Code} {g : GE} {cells slots : Nat} {Q : State → Prop} {lv : List (Nat × Value)} {st : List Value} {M : Mem} (C : zCx p l s m args meth c g RX9 cX9_carriedOut 4) {x : Int32} (h : ¬ x.toInt = 97 ∧ ¬ x.toInt = 98 ∧ ¬ x.toInt = 100 ∧ ¬ x.toInt = 102 ∧ ¬ x.toInt = 103 ∧ ¬ x.toInt = 109 ∧ ¬ x.toInt = 112 ∧ ¬ x.toInt = 116 ∧ ¬ x.toInt = 120) (k : WM p l e R s m args below meth c g 4 cells slots Q 202 lv st M) : WM p l e R s m args below meth c g 4 cells slots Q 35 lv (.int x :: st) M := by
  by_cases h1 : x.toInt < 97 ∨ 120 < x.toInt
  · exact zm_tableOut (tgt := 202) C dX9_carriedOut_35 h1 (by decide) k
  · have h2 : x.toInt = 99 ∨ x.toInt = 101 ∨ x.toInt = 104 ∨ x.toInt = 105 ∨ x.toInt = 106 ∨ x.toInt = 107 ∨ x.toInt = 108 ∨ x.toInt = 110 ∨ x.toInt = 111 ∨ x.toInt = 113 ∨ x.toInt = 114 ∨ x.toInt = 115 ∨ x.toInt = 117 ∨ x.toInt = 118 ∨ x.toInt = 119 := by omega
    rcases h2 with h2 | h2 | h2 | h2 | h2 | h2 | h2 | h2 | h2 | h2 | h2 | h2 | h2 | h2 | h2 <;> exact zm_tableIn (tgt := 202) C dX9_carriedOut_35 (by omega) (by omega) (by rw [h2]; rfl) (by decide) k
def w_X9_carriedOut (x1 : Int32) (u : MU) (Q : Int32 → MU → Prop) : Prop := w_X9_at 114 u x1 (fun r_1 => w_X9_at 115 u x1 (fun r_3 => w_X9_at 113 u x1 (fun r_5 => (r_5 = (97 : Int32) → w_X9_letPlay r_1 u (fun r_9 u_10 => Q r_9 u_10)) ∧ (¬ r_5 = (97 : Int32) → (r_5 = (98 : Int32) → w_X9_startGame r_1 u (fun r_12 u_13 => Q r_12 u_13)) ∧ (¬ r_5 = (98 : Int32) → (r_5 = (100 : Int32) → w_X9_addBurrow  u (fun r_15 u_16 => Q r_15 u_16)) ∧ (¬ r_5 = (100 : Int32) → (r_5 = (102 : Int32) → w_X9_turnTrap r_1 (0 : Int32) u (fun r_18 u_19 => Q r_18 u_19)) ∧ (¬ r_5 = (102 : Int32) → (r_5 = (103 : Int32) → w_X9_setGeese r_1 u (fun r_21 u_22 => Q r_21 u_22)) ∧ (¬ r_5 = (103 : Int32) → (r_5 = (109 : Int32) → w_X9_makeMove r_1 r_3 u (fun r_24 u_25 => Q r_24 u_25)) ∧ (¬ r_5 = (109 : Int32) → (r_5 = (112 : Int32) → w_X9_addPath r_1 r_3 u (fun r_27 u_28 => Q r_27 u_28)) ∧ (¬ r_5 = (112 : Int32) → (r_5 = (116 : Int32) → w_X9_turnTrap r_1 (1 : Int32) u (fun r_30 u_31 => Q r_30 u_31)) ∧ (¬ r_5 = (116 : Int32) → (r_5 = (120 : Int32) → w_X9_dropPath r_1 r_3 u (fun r_33 u_34 => Q r_33 u_34)) ∧ (¬ r_5 = (120 : Int32) → w_X9_takeBack  u (fun r_35 u_36 => Q r_35 u_36)))))))))))))
set_option maxHeartbeats 4000000 in
set_option maxRecDepth 100000 in
theorem c_X9_carriedOut (l : Launch) (g : GE) (u : MU) (W : MU × ((Nat → Int64) × (Nat → UInt64))) (x1 : Int32) {Q : Int32 → MU → Prop} (h : w_X9_carriedOut x1 u Q) : Met l yX9_carriedOut (.code yX9_carriedOut cX9_carriedOut 4 (Option.some Jvm.ClassFile.FieldType.int) :: TB) rm_X9_carriedOut (zPc g (u, W) [.ref (g.2.2.1 0), .int x1]) (zQi g (zPx W Q)) 0 0 (zA g) := by
  unfold w_X9_carriedOut at h
  refine zMet (own := RX9) [(0, .ref (g.2.2.1 0)), (1, .int x1)] (by decide +kernel) rfl (Nat.le_of_ble_eq_true rfl) rfl (fun p e s m args below meth c C hr => ?_)
  refine zm_aload_n C dX9_carriedOut_0 rfl 0 rfl ?_
  refine gf_RX9_66 (k1 := 112) C kd_0 rfl dX9_carriedOut_1 ?_
  refine gf_RX9_428 (k1 := 114) C kd_112 rfl dX9_carriedOut_4 ?_
  refine zm_iload_n C dX9_carriedOut_7 rfl 1 rfl ?_
  refine zm_ci (zr_S (As := [.ref (g.2.2.1 114), .int x1]) (rest := []) C (c_X9_at l g u W 114 kd_114 x1 h) wd_576 wd_473 wd_1 wd_474 hy_X9_at rfl rfl ⟨by decide, by decide⟩ ⟨by decide, by decide⟩ rfl rfl (Nat.le_of_ble_eq_true rfl) dX9_carriedOut_8) (fun r_1 M1 hq => ?_)
  obtain ⟨rfl, h⟩ := hq
  refine zm_istore_n (lv' := [(2, .int r_1), (0, .ref (g.2.2.1 0)), (1, .int x1)]) C dX9_carriedOut_11 rfl (by decide) rfl ?_
  refine zm_aload_n C dX9_carriedOut_12 rfl 1 rfl ?_
  refine gf_RX9_66 (k1 := 112) C kd_0 rfl dX9_carriedOut_13 ?_
  refine gf_RX9_429 (k1 := 115) C kd_112 rfl dX9_carriedOut_16 ?_
  refine zm_iload_n C dX9_carriedOut_19 rfl 2 rfl ?_
  refine zm_ci (zr_S (As := [.ref (g.2.2.1 115), .int x1]) (rest := []) C (c_X9_at l g u W 115 kd_115 x1 h) wd_576 wd_473 wd_1 wd_474 hy_X9_at rfl rfl ⟨by decide, by decide⟩ ⟨by decide, by decide⟩ rfl rfl (Nat.le_of_ble_eq_true rfl) dX9_carriedOut_20) (fun r_3 M1 hq => ?_)
  obtain ⟨rfl, h⟩ := hq
  refine zm_istore_n (lv' := [(3, .int r_3), (2, .int r_1), (0, .ref (g.2.2.1 0)), (1, .int x1)]) C dX9_carriedOut_23 rfl (by decide) rfl ?_
  refine zm_aload_n C dX9_carriedOut_24 rfl 2 rfl ?_
  refine gf_RX9_66 (k1 := 112) C kd_0 rfl dX9_carriedOut_25 ?_
  refine gf_RX9_430 (k1 := 113) C kd_112 rfl dX9_carriedOut_28 ?_
  refine zm_iload_n C dX9_carriedOut_31 rfl 3 rfl ?_
  refine zm_ci (zr_S (As := [.ref (g.2.2.1 113), .int x1]) (rest := []) C (c_X9_at l g u W 113 kd_113 x1 h) wd_576 wd_473 wd_1 wd_474 hy_X9_at rfl rfl ⟨by decide, by decide⟩ ⟨by decide, by decide⟩ rfl rfl (Nat.le_of_ble_eq_true rfl) dX9_carriedOut_32) (fun r_5 M1 hq => ?_)
  obtain ⟨rfl, h⟩ := hq
  by_cases hc_8 : r_5 = (97 : Int32)
  · have h := h.1 hc_8
    refine zm_tableIn (tgt := 196) C dX9_carriedOut_35 (by rw [hc_8]; decide) (by rw [hc_8]; decide) (by rw [hc_8]; rfl) (by decide) ?_
    refine zm_aload_n C dX9_carriedOut_196 rfl 2 rfl ?_
    refine zm_iload_n C dX9_carriedOut_197 rfl 1 rfl ?_
    refine zm_ci (zr_V (As := [.int r_1]) (rest := []) C (c_X9_letPlay l g u W r_1 h) wd_809 wd_811 wp_23 wd_1 wd_812 hy_X9_letPlay rfl rfl ⟨by decide, by decide⟩ ⟨by decide, by decide⟩ (ci := 9) (by decide) (zCell_k kd_0) rfl rfl rfl rfl (Nat.le_of_ble_eq_true rfl) dX9_carriedOut_198) (fun r_9 M1 hq => ?_)
    obtain ⟨u_10, rfl, h⟩ := hq
    exact zm_iret C hr dX9_carriedOut_201 ⟨_, rfl, h⟩
  · have h := h.2 hc_8
    by_cases hc_11 : r_5 = (98 : Int32)
    · have h := h.1 hc_11
      refine zm_tableIn (tgt := 183) C dX9_carriedOut_35 (by rw [hc_11]; decide) (by rw [hc_11]; decide) (by rw [hc_11]; rfl) (by decide) ?_
      refine zm_aload_n C dX9_carriedOut_183 rfl 2 rfl ?_
      refine zm_iload_n C dX9_carriedOut_184 rfl 1 rfl ?_
      refine zm_ci (zr_V (As := [.int r_1]) (rest := []) C (c_X9_startGame l g u W r_1 h) wd_772 wd_774 wp_21 wd_1 wd_775 hy_X9_startGame rfl rfl ⟨by decide, by decide⟩ ⟨by decide, by decide⟩ (ci := 9) (by decide) (zCell_k kd_0) rfl rfl rfl rfl (Nat.le_of_ble_eq_true rfl) dX9_carriedOut_185) (fun r_12 M1 hq => ?_)
      obtain ⟨u_13, rfl, h⟩ := hq
      exact zm_iret C hr dX9_carriedOut_188 ⟨_, rfl, h⟩
    · have h := h.2 hc_11
      by_cases hc_14 : r_5 = (100 : Int32)
      · have h := h.1 hc_14
        refine zm_tableIn (tgt := 144) C dX9_carriedOut_35 (by rw [hc_14]; decide) (by rw [hc_14]; decide) (by rw [hc_14]; rfl) (by decide) ?_
        refine zm_aload_n C dX9_carriedOut_144 rfl 2 rfl ?_
        refine zm_ci (zr_V (As := []) (rest := []) C (c_X9_addBurrow l g u W  h) wd_347 wd_349 wp_1 wd_1 wd_350 hy_X9_addBurrow rfl rfl ⟨by decide, by decide⟩ ⟨by decide, by decide⟩ (ci := 9) (by decide) (zCell_k kd_0) rfl rfl rfl rfl (Nat.le_of_ble_eq_true rfl) dX9_carriedOut_145) (fun r_15 M1 hq => ?_)
        obtain ⟨u_16, rfl, h⟩ := hq
        exact zm_iret C hr dX9_carriedOut_148 ⟨_, rfl, h⟩
      · have h := h.2 hc_14
        by_cases hc_17 : r_5 = (102 : Int32)
        · have h := h.1 hc_17
          refine zm_tableIn (tgt := 170) C dX9_carriedOut_35 (by rw [hc_17]; decide) (by rw [hc_17]; decide) (by rw [hc_17]; rfl) (by decide) ?_
          refine zm_aload_n C dX9_carriedOut_170 rfl 2 rfl ?_
          refine zm_iload_n C dX9_carriedOut_171 rfl 1 rfl ?_
          refine zm_iconst (v := 0) C dX9_carriedOut_172 (by decide) ?_
          refine zm_ci (zr_V (As := [.int r_1, .int (0 : Int32)]) (rest := []) C (c_X9_turnTrap l g u W r_1 (0 : Int32) h) wd_768 wd_770 wp_20 wd_1 wd_771 hy_X9_turnTrap rfl rfl ⟨by decide, by decide⟩ ⟨by decide, by decide⟩ (ci := 9) (by decide) (zCell_k kd_0) rfl rfl rfl rfl (Nat.le_of_ble_eq_true rfl) dX9_carriedOut_173) (fun r_18 M1 hq => ?_)
          obtain ⟨u_19, rfl, h⟩ := hq
          exact zm_iret C hr dX9_carriedOut_176 ⟨_, rfl, h⟩
        · have h := h.2 hc_17
          by_cases hc_20 : r_5 = (103 : Int32)
          · have h := h.1 hc_20
            refine zm_tableIn (tgt := 177) C dX9_carriedOut_35 (by rw [hc_20]; decide) (by rw [hc_20]; decide) (by rw [hc_20]; rfl) (by decide) ?_
            refine zm_aload_n C dX9_carriedOut_177 rfl 2 rfl ?_
            refine zm_iload_n C dX9_carriedOut_178 rfl 1 rfl ?_
            refine zm_ci (zr_V (As := [.int r_1]) (rest := []) C (c_X9_setGeese l g u W r_1 h) wd_511 wd_513 wp_11 wd_1 wd_514 hy_X9_setGeese rfl rfl ⟨by decide, by decide⟩ ⟨by decide, by decide⟩ (ci := 9) (by decide) (zCell_k kd_0) rfl rfl rfl rfl (Nat.le_of_ble_eq_true rfl) dX9_carriedOut_179) (fun r_21 M1 hq => ?_)
            obtain ⟨u_22, rfl, h⟩ := hq
            exact zm_iret C hr dX9_carriedOut_182 ⟨_, rfl, h⟩
          · have h := h.2 hc_20
            by_cases hc_23 : r_5 = (109 : Int32)
            · have h := h.1 hc_23
              refine zm_tableIn (tgt := 189) C dX9_carriedOut_35 (by rw [hc_23]; decide) (by rw [hc_23]; decide) (by rw [hc_23]; rfl) (by decide) ?_
              refine zm_aload_n C dX9_carriedOut_189 rfl 2 rfl ?_
              refine zm_iload_n C dX9_carriedOut_190 rfl 1 rfl ?_
              refine zm_iload_n C dX9_carriedOut_191 rfl 0 rfl ?_
              refine zm_ci (zr_V (As := [.int r_1, .int r_3]) (rest := []) C (c_X9_makeMove l g u W r_1 r_3 h) wd_786 wd_788 wp_22 wd_1 wd_789 hy_X9_makeMove rfl rfl ⟨by decide, by decide⟩ ⟨by decide, by decide⟩ (ci := 9) (by decide) (zCell_k kd_0) rfl rfl rfl rfl (Nat.le_of_ble_eq_true rfl) dX9_carriedOut_192) (fun r_24 M1 hq => ?_)
              obtain ⟨u_25, rfl, h⟩ := hq
              exact zm_iret C hr dX9_carriedOut_195 ⟨_, rfl, h⟩
            · have h := h.2 hc_23
              by_cases hc_26 : r_5 = (112 : Int32)
              · have h := h.1 hc_26
                refine zm_tableIn (tgt := 149) C dX9_carriedOut_35 (by rw [hc_26]; decide) (by rw [hc_26]; decide) (by rw [hc_26]; rfl) (by decide) ?_
                refine zm_aload_n C dX9_carriedOut_149 rfl 2 rfl ?_
                refine zm_iload_n C dX9_carriedOut_150 rfl 1 rfl ?_
                refine zm_iload_n C dX9_carriedOut_151 rfl 0 rfl ?_
                refine zm_ci (zr_V (As := [.int r_1, .int r_3]) (rest := []) C (c_X9_addPath l g u W r_1 r_3 h) wd_456 wd_458 wp_8 wd_1 wd_459 hy_X9_addPath rfl rfl ⟨by decide, by decide⟩ ⟨by decide, by decide⟩ (ci := 9) (by decide) (zCell_k kd_0) rfl rfl rfl rfl (Nat.le_of_ble_eq_true rfl) dX9_carriedOut_152) (fun r_27 M1 hq => ?_)
                obtain ⟨u_28, rfl, h⟩ := hq
                exact zm_iret C hr dX9_carriedOut_155 ⟨_, rfl, h⟩
              · have h := h.2 hc_26
                by_cases hc_29 : r_5 = (116 : Int32)
                · have h := h.1 hc_29
                  refine zm_tableIn (tgt := 163) C dX9_carriedOut_35 (by rw [hc_29]; decide) (by rw [hc_29]; decide) (by rw [hc_29]; rfl) (by decide) ?_
                  refine zm_aload_n C dX9_carriedOut_163 rfl 2 rfl ?_
                  refine zm_iload_n C dX9_carriedOut_164 rfl 1 rfl ?_
                  refine zm_iconst (v := 1) C dX9_carriedOut_165 (by decide) ?_
                  refine zm_ci (zr_V (As := [.int r_1, .int (1 : Int32)]) (rest := []) C (c_X9_turnTrap l g u W r_1 (1 : Int32) h) wd_768 wd_770 wp_20 wd_1 wd_771 hy_X9_turnTrap rfl rfl ⟨by decide, by decide⟩ ⟨by decide, by decide⟩ (ci := 9) (by decide) (zCell_k kd_0) rfl rfl rfl rfl (Nat.le_of_ble_eq_true rfl) dX9_carriedOut_166) (fun r_30 M1 hq => ?_)
                  obtain ⟨u_31, rfl, h⟩ := hq
                  exact zm_iret C hr dX9_carriedOut_169 ⟨_, rfl, h⟩
                · have h := h.2 hc_29
                  by_cases hc_32 : r_5 = (120 : Int32)
                  · have h := h.1 hc_32
                    refine zm_tableIn (tgt := 156) C dX9_carriedOut_35 (by rw [hc_32]; decide) (by rw [hc_32]; decide) (by rw [hc_32]; rfl) (by decide) ?_
                    refine zm_aload_n C dX9_carriedOut_156 rfl 2 rfl ?_
                    refine zm_iload_n C dX9_carriedOut_157 rfl 1 rfl ?_
                    refine zm_iload_n C dX9_carriedOut_158 rfl 0 rfl ?_
                    refine zm_ci (zr_V (As := [.int r_1, .int r_3]) (rest := []) C (c_X9_dropPath l g u W r_1 r_3 h) wd_496 wd_498 wp_10 wd_1 wd_499 hy_X9_dropPath rfl rfl ⟨by decide, by decide⟩ ⟨by decide, by decide⟩ (ci := 9) (by decide) (zCell_k kd_0) rfl rfl rfl rfl (Nat.le_of_ble_eq_true rfl) dX9_carriedOut_159) (fun r_33 M1 hq => ?_)
                    obtain ⟨u_34, rfl, h⟩ := hq
                    exact zm_iret C hr dX9_carriedOut_162 ⟨_, rfl, h⟩
                  · have h := h.2 hc_32
                    have n0 := lv_neT (a := 97) hc_8 rfl
                    have n1 := lv_neT (a := 98) hc_11 rfl
                    have n2 := lv_neT (a := 100) hc_14 rfl
                    have n3 := lv_neT (a := 102) hc_17 rfl
                    have n4 := lv_neT (a := 103) hc_20 rfl
                    have n5 := lv_neT (a := 109) hc_23 rfl
                    have n6 := lv_neT (a := 112) hc_26 rfl
                    have n7 := lv_neT (a := 116) hc_29 rfl
                    have n8 := lv_neT (a := 120) hc_32 rfl
                    refine zs_X9_carriedOut_35 C (by omega) ?_
                    refine zm_aload_n C dX9_carriedOut_202 rfl 2 rfl ?_
                    refine zm_ci (zr_V (As := []) (rest := []) C (c_X9_takeBack l g u W  h) wd_819 wd_821 wp_24 wd_1 wd_822 hy_X9_takeBack rfl rfl ⟨by decide, by decide⟩ ⟨by decide, by decide⟩ (ci := 9) (by decide) (zCell_k kd_0) rfl rfl rfl rfl (Nat.le_of_ble_eq_true rfl) dX9_carriedOut_203) (fun r_35 M1 hq => ?_)
                    obtain ⟨u_36, rfl, h⟩ := hq
                    exact zm_iret C hr dX9_carriedOut_206 ⟨_, rfl, h⟩
abbrev rm_X9_commands : Room := { frames := 7, cells := 1, slots := 6, locals := 306 }
def wb_X9_commands_94 (Q : Int32 → MU → Prop) (X : String → MU → Prop) (x1 : Int32) (u : MU) : Prop := (∀ u_1, u_1 = u2 u 0 14 (0 : Int32) → w_X9_settled x1 u_1 (fun r_2 u_3 => Q r_2 u_3) X)
set_option maxHeartbeats 4000000 in
set_option maxRecDepth 100000 in
theorem vb_X9_commands_94 {p : Program} {l : Launch} {e : Env} {s : State} {m : MethodId} {args : Array Value} {below : List Frame} {meth : Method} {c : Code} {g : GE} {W : MU × ((Nat → Int64) × (Nat → UInt64))} {Q : Int32 → MU → Prop} {X : String → MU → Prop} (C : zCx p l s m args meth c g RX9 cX9_commands 3) (hr : meth.sig.returnType = (Option.some Jvm.ClassFile.FieldType.int)) (hstk : l.stackTraces = false) (ht : ∀ x ∈ c.exceptionTable.toList, False) (x1 : Int32) (u : MU) (h : wb_X9_commands_94   Q X x1 u) : WM p l e rm_X9_commands s m args below meth c g 3 0 0 (vx_MQ below (zQi g (zPx W Q)) (zXC g (zXx W X)) args s 1 6 (zA g)) 94 [(0, .ref (g.2.2.1 0)), (1, .int x1)] [] (u, W) := by
  unfold wb_X9_commands_94 at h
  refine zm_aload_n C dX9_commands_94 rfl 0 rfl ?_
  refine zm_iconst (v := 0) C dX9_commands_95 (by decide) ?_
  refine pf_RX9_357 C kd_0  dX9_commands_96 (fun u_1 hu_1 => ?_)
  have h := h u_1 hu_1
  refine zm_aload_n C dX9_commands_99 rfl 0 rfl ?_
  refine zm_iload_n C dX9_commands_100 rfl 1 rfl ?_
  refine zx_ci (zrX_V (As := [.int x1]) (rest := []) C (c_X9_settled l hstk g u_1 W x1 h) wd_363 wd_365 wp_5 wd_1 wd_366 hy_X9_settled rfl rfl ⟨by decide, by decide⟩ ⟨by decide, by decide⟩ (ci := 9) (by decide) (zCell_k kd_0) rfl rfl rfl rfl (Nat.le_of_ble_eq_true rfl) dX9_commands_101) (fun E M1 hq => ?_) (fun r_2 M1 hq => ?_)
  · obtain ⟨u_3, rfl, h⟩ := hq
    exact zm_out C ht (by decide) (by decide) ⟨_, rfl, h⟩
  · obtain ⟨u_3, rfl, h⟩ := hq
    refine zm_vx (by decide) (by decide) ?_
    exact zm_iret C hr dX9_commands_104 ⟨_, rfl, h⟩
def wb_X9_commands_88 (L56 : Int32 → Int32 → MU → Prop) (Q : Int32 → MU → Prop) (X : String → MU → Prop) (x1 : Int32) (x2 : Int32) (u : MU) : Prop := ∀ x2_1, x2_1 = x2 + (1 : Int32) → L56 x1 x2_1 u
set_option maxHeartbeats 4000000 in
set_option maxRecDepth 100000 in
theorem vb_X9_commands_88 {p : Program} {l : Launch} {e : Env} {s : State} {m : MethodId} {args : Array Value} {below : List Frame} {meth : Method} {c : Code} {g : GE} {W : MU × ((Nat → Int64) × (Nat → UInt64))} {Q : Int32 → MU → Prop} {X : String → MU → Prop} (C : zCx p l s m args meth c g RX9 cX9_commands 3) (hr : meth.sig.returnType = (Option.some Jvm.ClassFile.FieldType.int)) (hstk : l.stackTraces = false) (ht : ∀ x ∈ c.exceptionTable.toList, False) {L56 : Int32 → Int32 → MU → Prop} (hL56 : ∀ (x1 : Int32) (x2 : Int32) (u : MU), L56 x1 x2 u → WM p l e rm_X9_commands s m args below meth c g 3 0 0 (vx_MQ below (zQi g (zPx W Q)) (zXC g (zXx W X)) args s 1 6 (zA g)) 56 [(0, .ref (g.2.2.1 0)), (1, .int x1), (2, .int x2)] [] (u, W)) (x1 : Int32) (x2 : Int32) (u : MU) (h : wb_X9_commands_88 L56  Q X x1 x2 u) : WM p l e rm_X9_commands s m args below meth c g 3 0 0 (vx_MQ below (zQi g (zPx W Q)) (zXC g (zXx W X)) args s 1 6 (zA g)) 88 [(0, .ref (g.2.2.1 0)), (1, .int x1), (2, .int x2)] [] (u, W) := by
  unfold wb_X9_commands_88 at h
  obtain ⟨x2_1, hx2_1⟩ : ∃ z, z = x2 + (1 : Int32) := ⟨_, rfl⟩
  have h := h x2_1 hx2_1
  refine zm_iinc (v := x2_1) (lv' := [(2, .int x2_1), (0, .ref (g.2.2.1 0)), (1, .int x1)]) C dX9_commands_88 2 rfl (by rw [hx2_1]; rfl) (by decide) rfl ?_
  refine zm_goto (tgt := 56) C dX9_commands_91 (by decide) ?_
  exact zm_sub [1, 2, 0] rfl (hL56 _ _ _ h)
def wl_X9_commands_56 (Q : Int32 → MU → Prop) (X : String → MU → Prop) : Nat → Int32 → Int32 → MU → Prop
  | 0, _, _, _ => False
  | n + 1, x1, x2, u => (((u 112 0) ≤ x2) → wb_X9_commands_94   Q X x1 u) ∧ ((¬ (u 112 0) ≤ x2) → ((x1 = (-1 : Int32)) → wb_X9_commands_94   Q X x1 u) ∧ ((¬ x1 = (-1 : Int32)) → (∀ u_3, u_3 = u2 u 0 14 x2 → w_X9_carriedOut x2 u_3 (fun r_4 u_5 => ((¬ r_4 = (-1 : Int32)) → wb_X9_commands_88 (fun x1' x2' u' => wl_X9_commands_56  Q X n x1' x2' u')  Q X x1 x2 u_5) ∧ ((r_4 = (-1 : Int32)) → wb_X9_commands_88 (fun x1' x2' u' => wl_X9_commands_56  Q X n x1' x2' u')  Q X (-1 : Int32) x2 u_5)))))
set_option maxHeartbeats 4000000 in
set_option maxRecDepth 100000 in
theorem vl_X9_commands_56 {p : Program} {l : Launch} {e : Env} {s : State} {m : MethodId} {args : Array Value} {below : List Frame} {meth : Method} {c : Code} {g : GE} {W : MU × ((Nat → Int64) × (Nat → UInt64))} {Q : Int32 → MU → Prop} {X : String → MU → Prop} (C : zCx p l s m args meth c g RX9 cX9_commands 3) (hr : meth.sig.returnType = (Option.some Jvm.ClassFile.FieldType.int)) (hstk : l.stackTraces = false) (ht : ∀ x ∈ c.exceptionTable.toList, False) : ∀ (n : Nat) (x1 : Int32) (x2 : Int32) (u : MU) , wl_X9_commands_56   Q X n x1 x2 u → WM p l e rm_X9_commands s m args below meth c g 3 0 0 (vx_MQ below (zQi g (zPx W Q)) (zXC g (zXx W X)) args s 1 6 (zA g)) 56 [(0, .ref (g.2.2.1 0)), (1, .int x1), (2, .int x2)] [] (u, W) := by
  intro n
  induction n with
  | zero => intro _ _ _ h; exact h.elim
  | succ n ih =>
    intro x1 x2 u h
    unfold wl_X9_commands_56 at h
    refine zm_iload_n C dX9_commands_56 rfl 2 rfl ?_
    refine zm_aload_n C dX9_commands_57 rfl 0 rfl ?_
    refine gf_RX9_66 (k1 := 112) C kd_0 rfl dX9_commands_58 ?_
    refine gf_RX9_354 C kd_112 dX9_commands_61 ?_
    refine zm_icmp_ge (tgt := 94) C dX9_commands_64 (by decide) (fun hc_1 => ?_) (fun hc_1 => ?_)
    · have h := h.1 hc_1
      exact zm_sub [0, 1] rfl (vb_X9_commands_94 C hr hstk ht  _ _ h)
    · have h := h.2 hc_1
      refine zm_iload_n C dX9_commands_67 rfl 1 rfl ?_
      refine zm_iconst (v := -1) C dX9_commands_68 (by decide) ?_
      refine zm_icmp_eq (tgt := 94) C dX9_commands_69 (by decide) (fun hc_2 => ?_) (fun hc_2 => ?_)
      · have h := h.1 hc_2
        exact zm_sub [0, 1] rfl (vb_X9_commands_94 C hr hstk ht  _ _ h)
      · have h := h.2 hc_2
        refine zm_aload_n C dX9_commands_72 rfl 0 rfl ?_
        refine zm_iload_n C dX9_commands_73 rfl 2 rfl ?_
        refine pf_RX9_357 C kd_0  dX9_commands_74 (fun u_3 hu_3 => ?_)
        have h := h u_3 hu_3
        refine zm_aload_n C dX9_commands_77 rfl 0 rfl ?_
        refine zm_iload_n C dX9_commands_78 rfl 2 rfl ?_
        refine zm_ci (zr_V (As := [.int x2]) (rest := []) C (c_X9_carriedOut l g u_3 W x2 h) wd_764 wd_766 wp_19 wd_1 wd_767 hy_X9_carriedOut rfl rfl ⟨by decide, by decide⟩ ⟨by decide, by decide⟩ (ci := 9) (by decide) (zCell_k kd_0) rfl rfl rfl rfl (Nat.le_of_ble_eq_true rfl) dX9_commands_79) (fun r_4 M1 hq => ?_)
        obtain ⟨u_5, rfl, h⟩ := hq
        refine zm_iconst (v := -1) C dX9_commands_82 (by decide) ?_
        refine zm_icmp_ne (tgt := 88) C dX9_commands_83 (by decide) (fun hc_6 => ?_) (fun hc_6 => ?_)
        · have h := h.1 hc_6
          exact zm_sub [0, 1, 2] rfl (vb_X9_commands_88 C hr hstk ht ih _ _ _ h)
        · have h := h.2 hc_6
          refine zm_iconst (v := -1) C dX9_commands_86 (by decide) ?_
          refine zm_istore_n (lv' := [(1, .int (-1 : Int32)), (0, .ref (g.2.2.1 0)), (2, .int x2)]) C dX9_commands_87 rfl (by decide) rfl ?_
          exact zm_sub [1, 0, 2] rfl (vb_X9_commands_88 C hr hstk ht ih _ _ _ h)
def w_X9_commands (u : MU) (Q : Int32 → MU → Prop) (X : String → MU → Prop) : Prop := w_X3_read 108 u (fun r_1 u_2 => (∀ u_3, u_3 = u2 u_2 0 13 r_1 → (∀ u_4, u_4 = u2 u_3 108 0 (0 : Int32) → (((u_4 0 13) = (-1 : Int32)) → w_X9_setAside  u_4 (fun u_7 => ∀ x1_8, x1_8 = (u_7 112 0) → ∃ nn, wl_X9_commands_56   Q X nn x1_8 (0 : Int32) u_7)) ∧ ((¬ (u_4 0 13) = (-1 : Int32)) → X "java/lang/IllegalArgumentException" u_4))))
set_option maxHeartbeats 4000000 in
set_option maxRecDepth 100000 in
theorem c_X9_commands (l : Launch) (hstk : l.stackTraces = false) (g : GE) (u : MU) (W : MU × ((Nat → Int64) × (Nat → UInt64))) {Q : Int32 → MU → Prop} {X : String → MU → Prop} (h : w_X9_commands u Q X) : vx_Met l yX9_commands (.code yX9_commands cX9_commands 3 (Option.some Jvm.ClassFile.FieldType.int) :: TB) rm_X9_commands (zPc g (u, W) [.ref (g.2.2.1 0)]) (zQi g (zPx W Q)) (zXC g (zXx W X)) 1 6 (zA g) := by
  unfold w_X9_commands at h
  refine zMetX (own := RX9) [(0, .ref (g.2.2.1 0))] (by decide +kernel) rfl (Nat.le_of_ble_eq_true rfl) rfl (fun p e s m args below meth c C hr ht => ?_)
  refine zm_aload_n C dX9_commands_0 rfl 0 rfl ?_
  refine zm_aload_n C dX9_commands_1 rfl 0 rfl ?_
  refine gf_RX9_66 (k1 := 112) C kd_0 rfl dX9_commands_2 ?_
  refine zm_aload_n C dX9_commands_5 rfl 0 rfl ?_
  refine gf_RX9_56 (k1 := 108) C kd_0 rfl dX9_commands_6 ?_
  refine zm_ci (zr_V (As := [.ref (g.2.2.1 108)]) (rest := [.ref (g.2.2.1 0)]) C (c_X3_read l g u W 108 kd_108 h) wd_739 wd_740 wd_741 wd_9 wd_742 hy_X3_read rfl rfl ⟨by decide, by decide⟩ ⟨by decide, by decide⟩ (ci := 3) (by decide) (zCell_k kd_112) rfl rfl rfl rfl (Nat.le_of_ble_eq_true rfl) dX9_commands_9) (fun r_1 M1 hq => ?_)
  obtain ⟨u_2, rfl, h⟩ := hq
  refine pf_RX9_77 C kd_0  dX9_commands_12 (fun u_3 hu_3 => ?_)
  have h := h u_3 hu_3
  refine zm_aload_n C dX9_commands_15 rfl 0 rfl ?_
  refine gf_RX9_56 (k1 := 108) C kd_0 rfl dX9_commands_16 ?_
  refine zm_iconst (v := 0) C dX9_commands_19 (by decide) ?_
  refine pf_RX9_333 C kd_108  dX9_commands_20 (fun u_4 hu_4 => ?_)
  have h := h u_4 hu_4
  refine zm_aload_n C dX9_commands_23 rfl 0 rfl ?_
  refine gf_RX9_77 C kd_0 dX9_commands_24 ?_
  refine zm_iconst (v := -1) C dX9_commands_27 (by decide) ?_
  refine zm_icmp_eq (tgt := 42) C dX9_commands_28 (by decide) (fun hc_5 => ?_) (fun hc_5 => ?_)
  · have h := h.1 hc_5
    refine zm_aload_n C dX9_commands_42 rfl 0 rfl ?_
    refine zm_cv (zr_V (As := []) (rest := []) C (c_X9_setAside l g u_4 W  h) wd_343 wd_345 wp_0 wd_1 wd_346 hy_X9_setAside rfl rfl ⟨by decide, by decide⟩ ⟨by decide, by decide⟩ (ci := 9) (by decide) (zCell_k kd_0) rfl rfl rfl rfl (Nat.le_of_ble_eq_true rfl) dX9_commands_43) (fun M1 hq => ?_)
    obtain ⟨u_7, rfl, h⟩ := hq
    refine zm_aload_n C dX9_commands_46 rfl 0 rfl ?_
    refine gf_RX9_66 (k1 := 112) C kd_0 rfl dX9_commands_47 ?_
    refine gf_RX9_354 C kd_112 dX9_commands_50 ?_
    refine zm_nmI (fun x1_8 hx1_8 => ?_)
    have h := h x1_8 hx1_8
    refine zm_istore_n (lv' := [(1, .int x1_8), (0, .ref (g.2.2.1 0))]) C dX9_commands_53 rfl (by decide) rfl ?_
    refine zm_iconst (v := 0) C dX9_commands_54 (by decide) ?_
    refine zm_istore_n (lv' := [(2, .int (0 : Int32)), (1, .int x1_8), (0, .ref (g.2.2.1 0))]) C dX9_commands_55 rfl (by decide) rfl ?_
    obtain ⟨nn, h⟩ := h
    exact zm_sub [2, 1, 0] rfl (vl_X9_commands_56 C hr hstk ht  nn _ _ _ h)
  · have h := h.2 hc_5
    exact zm_throwW (names := ["java/lang/RuntimeException", "java/lang/Exception"]) C hstk fit_IllegalArgumentException fit_names wd_560 wd_18 (is := 352) (text := "the text has a fault") (by decide) hat_IllegalArgumentException_155 hgd_IllegalArgumentException_155_151 dX9_commands_31 dX9_commands_34 dX9_commands_35 dX9_commands_38 dX9_commands_41 ht (Nat.le_of_ble_eq_true rfl) (Nat.le_of_ble_eq_true rfl) (Nat.le_of_ble_eq_true rfl) (Nat.le_of_ble_eq_true rfl) (Nat.le_of_ble_eq_true rfl) (Nat.le_of_ble_eq_true rfl) ⟨_, rfl, h⟩
abbrev rm_X9_faultPosition : Room := { frames := 0, cells := 0, slots := 0, locals := 0 }
def w_X9_faultPosition (u : MU) (Q : Int32 → Prop) : Prop := Q (u 0 13)
set_option maxHeartbeats 4000000 in
set_option maxRecDepth 100000 in
theorem c_X9_faultPosition (l : Launch) (g : GE) (u : MU) (W : MU × ((Nat → Int64) × (Nat → UInt64))) {Q : Int32 → Prop} (h : w_X9_faultPosition u Q) : Met l yX9_faultPosition (.code yX9_faultPosition cX9_faultPosition 1 (Option.some Jvm.ClassFile.FieldType.int) :: TB) rm_X9_faultPosition (zPc g (u, W) [.ref (g.2.2.1 0)]) (zQi g (zP0 (u, W) Q)) 0 0 (zA g) := by
  unfold w_X9_faultPosition at h
  refine zMet (own := RX9) [(0, .ref (g.2.2.1 0))] (by decide +kernel) rfl (Nat.le_of_ble_eq_true rfl) rfl (fun p e s m args below meth c C hr => ?_)
  refine zm_aload_n C dX9_faultPosition_0 rfl 0 rfl ?_
  refine gf_RX9_77 C kd_0 dX9_faultPosition_1 ?_
  exact zm_iret C hr dX9_faultPosition_4 ⟨rfl, h⟩
abbrev rm_X9_reason : Room := { frames := 6, cells := 1, slots := 6, locals := 90 }
def wb_X9_reason_9 (Q : Int32 → MU → Prop) (X : String → MU → Prop) (u : MU) : Prop := X "java/lang/IllegalArgumentException" u
set_option maxHeartbeats 4000000 in
set_option maxRecDepth 100000 in
theorem vb_X9_reason_9 {p : Program} {l : Launch} {e : Env} {s : State} {m : MethodId} {args : Array Value} {below : List Frame} {meth : Method} {c : Code} {g : GE} {W : MU × ((Nat → Int64) × (Nat → UInt64))} {Q : Int32 → MU → Prop} {X : String → MU → Prop} (C : zCx p l s m args meth c g RX9 cX9_reason 2) (hr : meth.sig.returnType = (Option.some Jvm.ClassFile.FieldType.int)) (hstk : l.stackTraces = false) (ht : ∀ x ∈ c.exceptionTable.toList, False) (u : MU) (h : wb_X9_reason_9   Q X  u) : WM p l e rm_X9_reason s m args below meth c g 2 0 0 (vx_MQ below (zQi g (zPx W Q)) (zXC g (zXx W X)) args s 1 6 (zA g)) 9 [] [] (u, W) := by
  unfold wb_X9_reason_9 at h
  exact zm_throwW (names := ["java/lang/RuntimeException", "java/lang/Exception"]) C hstk fit_IllegalArgumentException fit_names wd_560 wd_18 (is := 363) (text := "what is not from 0 to 2") (by decide) hat_IllegalArgumentException_155 hgd_IllegalArgumentException_155_151 dX9_reason_9 dX9_reason_12 dX9_reason_13 dX9_reason_16 dX9_reason_19 ht (Nat.le_of_ble_eq_true rfl) (Nat.le_of_ble_eq_true rfl) (Nat.le_of_ble_eq_true rfl) (Nat.le_of_ble_eq_true rfl) (Nat.le_of_ble_eq_true rfl) (Nat.le_of_ble_eq_true rfl) ⟨_, rfl, h⟩
def w_X9_reason (x1 : Int32) (u : MU) (Q : Int32 → MU → Prop) (X : String → MU → Prop) : Prop := ((x1 < 0) → wb_X9_reason_9   Q X u) ∧ ((¬ x1 < 0) → ((x1 ≤ (2 : Int32)) → ((¬ (u 116 0) = 0) → ((¬ x1 = 0) → ((¬ x1 = (1 : Int32)) → Q (u 116 3) u) ∧ ((x1 = (1 : Int32)) → Q (u 116 2) u)) ∧ ((x1 = 0) → Q (u 116 1) u)) ∧ (((u 116 0) = 0) → X "java/util/NoSuchElementException" u)) ∧ ((¬ x1 ≤ (2 : Int32)) → wb_X9_reason_9   Q X u))
set_option maxHeartbeats 4000000 in
set_option maxRecDepth 100000 in
theorem c_X9_reason (l : Launch) (hstk : l.stackTraces = false) (g : GE) (u : MU) (W : MU × ((Nat → Int64) × (Nat → UInt64))) (x1 : Int32) {Q : Int32 → MU → Prop} {X : String → MU → Prop} (h : w_X9_reason x1 u Q X) : vx_Met l yX9_reason (.code yX9_reason cX9_reason 2 (Option.some Jvm.ClassFile.FieldType.int) :: TB) rm_X9_reason (zPc g (u, W) [.ref (g.2.2.1 0), .int x1]) (zQi g (zPx W Q)) (zXC g (zXx W X)) 1 6 (zA g) := by
  unfold w_X9_reason at h
  refine zMetX (own := RX9) [(0, .ref (g.2.2.1 0)), (1, .int x1)] (by decide +kernel) rfl (Nat.le_of_ble_eq_true rfl) rfl (fun p e s m args below meth c C hr ht => ?_)
  refine zm_iload_n C dX9_reason_0 rfl 1 rfl ?_
  refine zm_if_lt (tgt := 9) C dX9_reason_1 (by decide) (fun hc_1 => ?_) (fun hc_1 => ?_)
  · have h := h.1 hc_1
    exact zm_sub [] rfl (vb_X9_reason_9 C hr hstk ht  _ h)
  · have h := h.2 hc_1
    refine zm_iload_n C dX9_reason_4 rfl 1 rfl ?_
    refine zm_iconst (v := 2) C dX9_reason_5 (by decide) ?_
    refine zm_icmp_le (tgt := 20) C dX9_reason_6 (by decide) (fun hc_2 => ?_) (fun hc_2 => ?_)
    · have h := h.1 hc_2
      refine zm_aload_n C dX9_reason_20 rfl 0 rfl ?_
      refine gf_RX9_73 (k1 := 116) C kd_0 rfl dX9_reason_21 ?_
      refine gf_RX9_365 C kd_116 dX9_reason_24 ?_
      refine zm_if_ne (tgt := 41) C dX9_reason_27 (by decide) (fun hc_3 => ?_) (fun hc_3 => ?_)
      · have h := h.1 hc_3
        refine zm_iload_n C dX9_reason_41 rfl 1 rfl ?_
        refine zm_if_ne (tgt := 53) C dX9_reason_42 (by decide) (fun hc_4 => ?_) (fun hc_4 => ?_)
        · have h := h.1 hc_4
          refine zm_iload_n C dX9_reason_53 rfl 1 rfl ?_
          refine zm_iconst (v := 1) C dX9_reason_54 (by decide) ?_
          refine zm_icmp_ne (tgt := 68) C dX9_reason_55 (by decide) (fun hc_5 => ?_) (fun hc_5 => ?_)
          · have h := h.1 hc_5
            refine zm_aload_n C dX9_reason_68 rfl 0 rfl ?_
            refine gf_RX9_73 (k1 := 116) C kd_0 rfl dX9_reason_69 ?_
            refine gf_RX9_376 C kd_116 dX9_reason_72 ?_
            refine zm_vx (by decide) (by decide) ?_
            exact zm_iret C hr dX9_reason_75 ⟨_, rfl, h⟩
          · have h := h.2 hc_5
            refine zm_aload_n C dX9_reason_58 rfl 0 rfl ?_
            refine gf_RX9_73 (k1 := 116) C kd_0 rfl dX9_reason_59 ?_
            refine gf_RX9_373 C kd_116 dX9_reason_62 ?_
            refine zm_goto (tgt := 75) C dX9_reason_65 (by decide) ?_
            refine zm_vx (by decide) (by decide) ?_
            exact zm_iret C hr dX9_reason_75 ⟨_, rfl, h⟩
        · have h := h.2 hc_4
          refine zm_aload_n C dX9_reason_45 rfl 0 rfl ?_
          refine gf_RX9_73 (k1 := 116) C kd_0 rfl dX9_reason_46 ?_
          refine gf_RX9_370 C kd_116 dX9_reason_49 ?_
          refine zm_vx (by decide) (by decide) ?_
          exact zm_iret C hr dX9_reason_52 ⟨_, rfl, h⟩
      · have h := h.2 hc_3
        exact zm_throwNW C hstk wd_875 wd_22 (is := 368) (text := "nothing was refused") (by decide) hat_NoSuchElementException_132 hgd_NoSuchElementException_132_128 dX9_reason_30 dX9_reason_33 dX9_reason_34 dX9_reason_37 dX9_reason_40 ht (Nat.le_of_ble_eq_true rfl) (Nat.le_of_ble_eq_true rfl) (Nat.le_of_ble_eq_true rfl) (Nat.le_of_ble_eq_true rfl) (Nat.le_of_ble_eq_true rfl) (Nat.le_of_ble_eq_true rfl) ⟨_, rfl, h⟩
    · have h := h.2 hc_2
      exact zm_sub [] rfl (vb_X9_reason_9 C hr hstk ht  _ h)
