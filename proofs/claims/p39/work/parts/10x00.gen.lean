abbrev rm_X0_placeAt : Room := { frames := 0, cells := 0, slots := 0, locals := 0 }
def wb_X0_placeAt_13 (u : MU) (Q : Option Nat → Prop) : Prop := Q none
set_option maxHeartbeats 4000000 in
set_option maxRecDepth 100000 in
theorem vb_X0_placeAt_13 {p : Program} {l : Launch} {e : Env} {s : State} {m : MethodId} {args : Array Value} {below : List Frame} {meth : Method} {c : Code} {g : GE} {W : MU × ((Nat → Int64) × (Nat → UInt64))} {u : MU} {Q : Option Nat → Prop} (C : zCx p l s m args meth c g RX0 cX0_placeAt 2) (hr : meth.sig.returnType = (Option.some (Jvm.ClassFile.FieldType.object "FoxBurrows$State"))) (h : wb_X0_placeAt_13  u Q ) : WM p l e rm_X0_placeAt s m args below meth c g 2 0 0 (MQ below (zQq g (zP0 (u, W) Q)) args s 0 0 (zA g)) 13 [] [] (u, W) := by
  unfold wb_X0_placeAt_13 at h
  refine zm_null C dX0_placeAt_13 ?_
  refine zm_goto (tgt := 23) C dX0_placeAt_14 (by decide) ?_
  exact zm_aretN C hr dX0_placeAt_23 ⟨rfl, h⟩
def w_X0_placeAt (u : MU) (x1 : Int32) (Q : Option Nat → Prop) : Prop := ((x1 < 0) → wb_X0_placeAt_13  u Q ) ∧ ((¬ x1 < 0) → ((x1 < (Int32.ofNat 8)) → vp_in x1 8 ∧ (Q (some (26 + 1 + 8 * (x1).toNatClampNeg)))) ∧ ((¬ x1 < (Int32.ofNat 8)) → wb_X0_placeAt_13  u Q ))
set_option maxHeartbeats 4000000 in
set_option maxRecDepth 100000 in
theorem c_X0_placeAt (l : Launch) (g : GE) (u : MU) (W : MU × ((Nat → Int64) × (Nat → UInt64))) (x1 : Int32) {Q : Option Nat → Prop} (h : w_X0_placeAt u x1 Q) : Met l yX0_placeAt (.code yX0_placeAt cX0_placeAt 2 (Option.some (Jvm.ClassFile.FieldType.object "FoxBurrows$State")) :: TB) rm_X0_placeAt (zPc g (u, W) [.ref (g.2.2.1 25), .int x1]) (zQq g (zP0 (u, W) Q)) 0 0 (zA g) := by
  unfold w_X0_placeAt at h
  refine zMet (own := RX0) [(0, .ref (g.2.2.1 25)), (1, .int x1)] (by decide +kernel) rfl (Nat.le_of_ble_eq_true rfl) rfl (fun p e s m args below meth c C hr => ?_)
  refine zm_iload_n C dX0_placeAt_0 rfl 1 rfl ?_
  refine zm_if_lt (tgt := 13) C dX0_placeAt_1 (by decide) (fun hc_1 => ?_) (fun hc_1 => ?_)
  · have h := h.1 hc_1
    exact zm_sub [] rfl (vb_X0_placeAt_13 C hr   h)
  · have h := h.2 hc_1
    refine zm_iload_n C dX0_placeAt_4 rfl 1 rfl ?_
    refine zm_aload_n C dX0_placeAt_5 rfl 0 rfl ?_
    refine gf_RX0_11 (k1 := 26) C kd_25 rfl dX0_placeAt_6 ?_
    refine zm_len_S C kd_26 dX0_placeAt_9 ?_
    refine zm_icmp_lt (tgt := 17) C dX0_placeAt_10 (by decide) (fun hc_2 => ?_) (fun hc_2 => ?_)
    · have h := h.1 hc_2
      refine zm_aload_n C dX0_placeAt_17 rfl 0 rfl ?_
      refine gf_RX0_11 (k1 := 26) C kd_25 rfl dX0_placeAt_18 ?_
      refine zm_iload_n C dX0_placeAt_21 rfl 1 rfl ?_
      obtain ⟨hg_3, h⟩ := h
      refine zm_ldS C kd_26 hg_3 dX0_placeAt_22 ?_
      exact zm_aretR C hr dX0_placeAt_23 ⟨rfl, h⟩
    · have h := h.2 hc_2
      exact zm_sub [] rfl (vb_X0_placeAt_13 C hr   h)
abbrev rm_X9_copy : Room := { frames := 1, cells := 0, slots := 0, locals := 200 }
def w_X9_copy (k0 : Nat) (k1 : Nat) (u : MU) (Q : MU → Prop) : Prop := (¬ (if (Int32.ofNat (zln k1)) < (Int32.ofNat (zln k0)) then (Int32.ofNat (zln k1)) else (Int32.ofNat (zln k0))) < 0 ∧ ((if (Int32.ofNat (zln k1)) < (Int32.ofNat (zln k0)) then (Int32.ofNat (zln k1)) else (Int32.ofNat (zln k0)))).toNatClampNeg ≤ (zln k0) ∧ ((if (Int32.ofNat (zln k1)) < (Int32.ofNat (zln k0)) then (Int32.ofNat (zln k1)) else (Int32.ofNat (zln k0)))).toNatClampNeg ≤ (zln k1)) ∧ (∀ u_1, u_1 = u1 u k1 (va_cpy (u k0) (u k1) 0 0 ((if (Int32.ofNat (zln k1)) < (Int32.ofNat (zln k0)) then (Int32.ofNat (zln k1)) else (Int32.ofNat (zln k0)))).toNatClampNeg) → Q u_1)
set_option maxHeartbeats 4000000 in
set_option maxRecDepth 100000 in
theorem c_X9_copy (l : Launch) (g : GE) (u : MU) (W : MU × ((Nat → Int64) × (Nat → UInt64))) (k0 : Nat) (k1 : Nat) (hk0 : zkd k0 = 5) (hk1 : zkd k1 = 5) {Q : MU → Prop} (h : w_X9_copy k0 k1 u Q) : Met l yX9_copy (.code yX9_copy cX9_copy 2 (Option.none : Option Jvm.ClassFile.FieldType) :: TB) rm_X9_copy (zPc g (u, W) [.ref (g.2.2.1 k0), .ref (g.2.2.1 k1)]) (zQv g (zPxv W Q)) 0 0 (zA g) := by
  unfold w_X9_copy at h
  refine zMet (own := RX9) [(0, .ref (g.2.2.1 k0)), (1, .ref (g.2.2.1 k1))] (by decide +kernel) rfl (Nat.le_of_ble_eq_true rfl) rfl (fun p e s m args below meth c C hr => ?_)
  refine zm_aload_n C dX9_copy_0 rfl 0 rfl ?_
  refine zm_iconst (v := 0) C dX9_copy_1 (by decide) ?_
  refine zm_aload_n C dX9_copy_2 rfl 1 rfl ?_
  refine zm_iconst (v := 0) C dX9_copy_3 (by decide) ?_
  refine zm_aload_n C dX9_copy_4 rfl 0 rfl ?_
  refine zm_len_x C hk0 rfl dX9_copy_5 ?_
  refine zm_aload_n C dX9_copy_6 rfl 1 rfl ?_
  refine zm_len_x C hk1 rfl dX9_copy_7 ?_
  refine zm_mmin C wd_321 wd_322 wd_15 wd_323 (Nat.le_of_ble_eq_true rfl) (Nat.le_of_ble_eq_true rfl) (Nat.le_of_ble_eq_true rfl) (Nat.le_of_ble_eq_true rfl) dX9_copy_8 ?_
  obtain ⟨hg_2, h⟩ := h
  refine zq_copy C hk0 hk1 rfl rfl hg_2.1 hg_2.2.1 hg_2.2.2 wd_324 wd_326 wd_325 wd_16 (Nat.le_of_ble_eq_true rfl) (Nat.le_of_ble_eq_true rfl) dX9_copy_11 (fun u_1 hu_1 => ?_)
  have h := h u_1 hu_1
  exact zm_vret C hr dX9_copy_14 ⟨_, rfl, h⟩
abbrev rm_X1_become : Room := { frames := 2, cells := 0, slots := 0, locals := 221 }
def w_X1_become (k0 : Nat) (k1 : Nat) (u : MU) (Q : MU → Prop) : Prop := (∀ u_1, u_1 = u2 u k0 0 (u k1 0) → (∀ u_2, u_2 = u2 u_1 k0 1 (u_1 k1 1) → (∀ u_3, u_3 = u2 u_2 k0 2 (u_2 k1 2) → (∀ u_4, u_4 = u2 u_3 k0 3 (u_3 k1 3) → (∀ u_5, u_5 = u2 u_4 k0 4 (u_4 k1 4) → w_X9_copy (k1 + 1) (k0 + 1) u_5 (fun u_7 => w_X9_copy (k1 + 2) (k0 + 2) u_7 (fun u_9 => w_X9_copy (k1 + 3) (k0 + 3) u_9 (fun u_11 => Q u_11))))))))
set_option maxHeartbeats 4000000 in
set_option maxRecDepth 100000 in
theorem c_X1_become (l : Launch) (g : GE) (u : MU) (W : MU × ((Nat → Int64) × (Nat → UInt64))) (k0 : Nat) (k1 : Nat) (hk0 : zkd k0 = 3) (hk1 : zkd k1 = 3) {Q : MU → Prop} (h : w_X1_become k0 k1 u Q) : Met l yX1_become (.code yX1_become cX1_become 2 (Option.none : Option Jvm.ClassFile.FieldType) :: TB) rm_X1_become (zPc g (u, W) [.ref (g.2.2.1 k0), .ref (g.2.2.1 k1)]) (zQv g (zPxv W Q)) 0 0 (zA g) := by
  unfold w_X1_become at h
  refine zMet (own := RX1) [(0, .ref (g.2.2.1 k0)), (1, .ref (g.2.2.1 k1))] (by decide +kernel) rfl (Nat.le_of_ble_eq_true rfl) rfl (fun p e s m args below meth c C hr => ?_)
  refine zm_aload_n C dX1_become_0 rfl 0 rfl ?_
  refine zm_aload_n C dX1_become_1 rfl 1 rfl ?_
  refine gf_RX1_25 C hk1 dX1_become_2 ?_
  refine pf_RX1_25 C hk0  dX1_become_5 (fun u_1 hu_1 => ?_)
  have h := h u_1 hu_1
  refine zm_aload_n C dX1_become_8 rfl 0 rfl ?_
  refine zm_aload_n C dX1_become_9 rfl 1 rfl ?_
  refine gf_RX1_28 C hk1 dX1_become_10 ?_
  refine pf_RX1_28 C hk0  dX1_become_13 (fun u_2 hu_2 => ?_)
  have h := h u_2 hu_2
  refine zm_aload_n C dX1_become_16 rfl 0 rfl ?_
  refine zm_aload_n C dX1_become_17 rfl 1 rfl ?_
  refine gf_RX1_31 C hk1 dX1_become_18 ?_
  refine pf_RX1_31 C hk0  dX1_become_21 (fun u_3 hu_3 => ?_)
  have h := h u_3 hu_3
  refine zm_aload_n C dX1_become_24 rfl 0 rfl ?_
  refine zm_aload_n C dX1_become_25 rfl 1 rfl ?_
  refine gf_RX1_9 C hk1 dX1_become_26 ?_
  refine pf_RX1_9 C hk0  dX1_become_29 (fun u_4 hu_4 => ?_)
  have h := h u_4 hu_4
  refine zm_aload_n C dX1_become_32 rfl 0 rfl ?_
  refine zm_aload_n C dX1_become_33 rfl 1 rfl ?_
  refine gf_RX1_34 C hk1 dX1_become_34 ?_
  refine pf_RX1_34 C hk0  dX1_become_37 (fun u_5 hu_5 => ?_)
  have h := h u_5 hu_5
  refine zm_aload_n C dX1_become_40 rfl 1 rfl ?_
  refine gf_RX1_15 (k1 := (k1 + 1)) C hk1 rfl dX1_become_41 ?_
  refine zm_aload_n C dX1_become_44 rfl 0 rfl ?_
  refine gf_RX1_15 (k1 := (k0 + 1)) C hk0 rfl dX1_become_45 ?_
  refine zm_cv (zr_SN (As := [.ref (g.2.2.1 (k1 + 1)), .ref (g.2.2.1 (k0 + 1))]) (rest := []) C (c_X9_copy l g u_5 W (k1 + 1) (k0 + 1) (zk3_1 hk1) (zk3_1 hk0) h) wd_318 wd_319 wd_1 wd_320 hz_X9_copy rfl rfl ⟨by decide, by decide⟩ ⟨by decide, by decide⟩ rfl rfl (Nat.le_of_ble_eq_true rfl) dX1_become_48) (fun M1 hq => ?_)
  obtain ⟨u_7, rfl, h⟩ := hq
  refine zm_aload_n C dX1_become_51 rfl 1 rfl ?_
  refine gf_RX1_19 (k1 := (k1 + 2)) C hk1 rfl dX1_become_52 ?_
  refine zm_aload_n C dX1_become_55 rfl 0 rfl ?_
  refine gf_RX1_19 (k1 := (k0 + 2)) C hk0 rfl dX1_become_56 ?_
  refine zm_cv (zr_SN (As := [.ref (g.2.2.1 (k1 + 2)), .ref (g.2.2.1 (k0 + 2))]) (rest := []) C (c_X9_copy l g u_7 W (k1 + 2) (k0 + 2) (zk3_2 hk1) (zk3_2 hk0) h) wd_318 wd_319 wd_1 wd_320 hz_X9_copy rfl rfl ⟨by decide, by decide⟩ ⟨by decide, by decide⟩ rfl rfl (Nat.le_of_ble_eq_true rfl) dX1_become_59) (fun M1 hq => ?_)
  obtain ⟨u_9, rfl, h⟩ := hq
  refine zm_aload_n C dX1_become_62 rfl 1 rfl ?_
  refine gf_RX1_22 (k1 := (k1 + 3)) C hk1 rfl dX1_become_63 ?_
  refine zm_aload_n C dX1_become_66 rfl 0 rfl ?_
  refine gf_RX1_22 (k1 := (k0 + 3)) C hk0 rfl dX1_become_67 ?_
  refine zm_cv (zr_SN (As := [.ref (g.2.2.1 (k1 + 3)), .ref (g.2.2.1 (k0 + 3))]) (rest := []) C (c_X9_copy l g u_9 W (k1 + 3) (k0 + 3) (zk3_3 hk1) (zk3_3 hk0) h) wd_318 wd_319 wd_1 wd_320 hz_X9_copy rfl rfl ⟨by decide, by decide⟩ ⟨by decide, by decide⟩ rfl rfl (Nat.le_of_ble_eq_true rfl) dX1_become_70) (fun M1 hq => ?_)
  obtain ⟨u_11, rfl, h⟩ := hq
  exact zm_vret C hr dX1_become_73 ⟨_, rfl, h⟩
abbrev rm_X2_become : Room := { frames := 2, cells := 0, slots := 0, locals := 221 }
def w_X2_become (k0 : Nat) (k1 : Nat) (u : MU) (Q : MU → Prop) : Prop := (narrow .boolean (.int (u k1 0)) = .int (u k1 0) ∧ fits .boolean (.int (u k1 0)) = true) ∧ (∀ u_1, u_1 = u2 u k0 0 (u k1 0) → (∀ u_3, u_3 = u2 u_1 k0 1 (u_1 k1 1) → w_X9_copy (k1 + 1) (k0 + 1) u_3 (fun u_5 => w_X9_copy (k1 + 2) (k0 + 2) u_5 (fun u_7 => Q u_7))))
set_option maxHeartbeats 4000000 in
set_option maxRecDepth 100000 in
theorem c_X2_become (l : Launch) (g : GE) (u : MU) (W : MU × ((Nat → Int64) × (Nat → UInt64))) (k0 : Nat) (k1 : Nat) (hk0 : zkd k0 = 4) (hk1 : zkd k1 = 4) {Q : MU → Prop} (h : w_X2_become k0 k1 u Q) : Met l yX2_become (.code yX2_become cX2_become 2 (Option.none : Option Jvm.ClassFile.FieldType) :: TB) rm_X2_become (zPc g (u, W) [.ref (g.2.2.1 k0), .ref (g.2.2.1 k1)]) (zQv g (zPxv W Q)) 0 0 (zA g) := by
  unfold w_X2_become at h
  refine zMet (own := RX2) [(0, .ref (g.2.2.1 k0)), (1, .ref (g.2.2.1 k1))] (by decide +kernel) rfl (Nat.le_of_ble_eq_true rfl) rfl (fun p e s m args below meth c C hr => ?_)
  refine zm_aload_n C dX2_become_0 rfl 0 rfl ?_
  refine zm_aload_n C dX2_become_1 rfl 1 rfl ?_
  refine gf_RX2_18 C hk1 dX2_become_2 ?_
  obtain ⟨hg_2, h⟩ := h
  refine pf_RX2_18 C hk0 hg_2.1 hg_2.2 dX2_become_5 (fun u_1 hu_1 => ?_)
  have h := h u_1 hu_1
  refine zm_aload_n C dX2_become_8 rfl 0 rfl ?_
  refine zm_aload_n C dX2_become_9 rfl 1 rfl ?_
  refine gf_RX2_22 C hk1 dX2_become_10 ?_
  refine pf_RX2_22 C hk0  dX2_become_13 (fun u_3 hu_3 => ?_)
  have h := h u_3 hu_3
  refine zm_aload_n C dX2_become_16 rfl 1 rfl ?_
  refine gf_RX2_9 (k1 := (k1 + 1)) C hk1 rfl dX2_become_17 ?_
  refine zm_aload_n C dX2_become_20 rfl 0 rfl ?_
  refine gf_RX2_9 (k1 := (k0 + 1)) C hk0 rfl dX2_become_21 ?_
  refine zm_cv (zr_SN (As := [.ref (g.2.2.1 (k1 + 1)), .ref (g.2.2.1 (k0 + 1))]) (rest := []) C (c_X9_copy l g u_3 W (k1 + 1) (k0 + 1) (zk4_1 hk1) (zk4_1 hk0) h) wd_331 wd_319 wd_1 wd_320 hz_X9_copy rfl rfl ⟨by decide, by decide⟩ ⟨by decide, by decide⟩ rfl rfl (Nat.le_of_ble_eq_true rfl) dX2_become_24) (fun M1 hq => ?_)
  obtain ⟨u_5, rfl, h⟩ := hq
  refine zm_aload_n C dX2_become_27 rfl 1 rfl ?_
  refine gf_RX2_15 (k1 := (k1 + 2)) C hk1 rfl dX2_become_28 ?_
  refine zm_aload_n C dX2_become_31 rfl 0 rfl ?_
  refine gf_RX2_15 (k1 := (k0 + 2)) C hk0 rfl dX2_become_32 ?_
  refine zm_cv (zr_SN (As := [.ref (g.2.2.1 (k1 + 2)), .ref (g.2.2.1 (k0 + 2))]) (rest := []) C (c_X9_copy l g u_5 W (k1 + 2) (k0 + 2) (zk4_2 hk1) (zk4_2 hk0) h) wd_331 wd_319 wd_1 wd_320 hz_X9_copy rfl rfl ⟨by decide, by decide⟩ ⟨by decide, by decide⟩ rfl rfl (Nat.le_of_ble_eq_true rfl) dX2_become_35) (fun M1 hq => ?_)
  obtain ⟨u_7, rfl, h⟩ := hq
  exact zm_vret C hr dX2_become_38 ⟨_, rfl, h⟩
abbrev rm_X6_become : Room := { frames := 3, cells := 0, slots := 0, locals := 242 }
def w_X6_become (k0 : Nat) (k1 : Nat) (u : MU) (Q : MU → Prop) : Prop := w_X1_become (k0 + 1) (k1 + 1) u (fun u_2 => w_X2_become (k0 + 5) (k1 + 5) u_2 (fun u_4 => (∀ u_5, u_5 = u2 u_4 k0 2 (u_4 k1 2) → Q u_5)))
set_option maxHeartbeats 4000000 in
set_option maxRecDepth 100000 in
theorem c_X6_become (l : Launch) (g : GE) (u : MU) (W : MU × ((Nat → Int64) × (Nat → UInt64))) (k0 : Nat) (k1 : Nat) (hk0 : zkd k0 = 2) (hk1 : zkd k1 = 2) {Q : MU → Prop} (h : w_X6_become k0 k1 u Q) : Met l yX6_become (.code yX6_become cX6_become 2 (Option.none : Option Jvm.ClassFile.FieldType) :: TB) rm_X6_become (zPc g (u, W) [.ref (g.2.2.1 k0), .ref (g.2.2.1 k1)]) (zQv g (zPxv W Q)) 0 0 (zA g) := by
  unfold w_X6_become at h
  refine zMet (own := RX6) [(0, .ref (g.2.2.1 k0)), (1, .ref (g.2.2.1 k1))] (by decide +kernel) rfl (Nat.le_of_ble_eq_true rfl) rfl (fun p e s m args below meth c C hr => ?_)
  refine zm_aload_n C dX6_become_0 rfl 0 rfl ?_
  refine gf_RX6_10 (k1 := (k0 + 1)) C hk0 rfl dX6_become_1 ?_
  refine zm_aload_n C dX6_become_4 rfl 1 rfl ?_
  refine gf_RX6_10 (k1 := (k1 + 1)) C hk1 rfl dX6_become_5 ?_
  refine zm_cv (zr_V (As := [.ref (g.2.2.1 (k1 + 1))]) (rest := []) C (c_X1_become l g u W (k0 + 1) (k1 + 1) (zk2_1 hk0) (zk2_1 hk1) h) wd_314 wd_315 wd_316 wd_3 wd_317 hy_X1_become rfl rfl ⟨by decide, by decide⟩ ⟨by decide, by decide⟩ (ci := 1) (zkd_lt (zk2_1 hk0) (by decide)) (zCell_k (zk2_1 hk0)) rfl rfl rfl rfl (Nat.le_of_ble_eq_true rfl) dX6_become_8) (fun M1 hq => ?_)
  obtain ⟨u_2, rfl, h⟩ := hq
  refine zm_aload_n C dX6_become_11 rfl 0 rfl ?_
  refine gf_RX6_19 (k1 := (k0 + 5)) C hk0 rfl dX6_become_12 ?_
  refine zm_aload_n C dX6_become_15 rfl 1 rfl ?_
  refine gf_RX6_19 (k1 := (k1 + 5)) C hk1 rfl dX6_become_16 ?_
  refine zm_cv (zr_V (As := [.ref (g.2.2.1 (k1 + 5))]) (rest := []) C (c_X2_become l g u_2 W (k0 + 5) (k1 + 5) (zk2_5 hk0) (zk2_5 hk1) h) wd_327 wd_328 wd_329 wd_4 wd_330 hy_X2_become rfl rfl ⟨by decide, by decide⟩ ⟨by decide, by decide⟩ (ci := 2) (zkd_lt (zk2_5 hk0) (by decide)) (zCell_k (zk2_5 hk0)) rfl rfl rfl rfl (Nat.le_of_ble_eq_true rfl) dX6_become_19) (fun M1 hq => ?_)
  obtain ⟨u_4, rfl, h⟩ := hq
  refine zm_aload_n C dX6_become_22 rfl 0 rfl ?_
  refine zm_aload_n C dX6_become_23 rfl 1 rfl ?_
  refine gf_RX6_30 C hk1 dX6_become_24 ?_
  refine pf_RX6_30 C hk0  dX6_become_27 (fun u_5 hu_5 => ?_)
  have h := h u_5 hu_5
  exact zm_vret C hr dX6_become_30 ⟨_, rfl, h⟩
abbrev rm_X0_keep : Room := { frames := 4, cells := 0, slots := 0, locals := 263 }
def w_X0_keep (k1 : Nat) (u : MU) (Q : MU → Prop) : Prop := w_X0_placeAt u (u 25 2) (fun r_1 => (r_1 = none → Q u) ∧ (∀ j5, r_1 = some j5 → zkd j5 = 2 ∧ (w_X6_become j5 k1 u (fun u_4 => (∀ u_5, u_5 = u2 u_4 25 2 (((u_4 25 2) + (1 : Int32)) - ((u_4 25 2) + (1 : Int32)) / (8 : Int32) * (8 : Int32)) → (∀ u_6, u_6 = u2 u_5 25 1 (if (8 : Int32) < ((u_5 25 1) + (1 : Int32)) then (8 : Int32) else ((u_5 25 1) + (1 : Int32))) → Q u_6))))))
set_option maxHeartbeats 4000000 in
set_option maxRecDepth 100000 in
theorem c_X0_keep (l : Launch) (g : GE) (u : MU) (W : MU × ((Nat → Int64) × (Nat → UInt64))) (k1 : Nat) (hk1 : zkd k1 = 2) {Q : MU → Prop} (h : w_X0_keep k1 u Q) : Met l yX0_keep (.code yX0_keep cX0_keep 3 (Option.none : Option Jvm.ClassFile.FieldType) :: TB) rm_X0_keep (zPc g (u, W) [.ref (g.2.2.1 25), .ref (g.2.2.1 k1)]) (zQv g (zPxv W Q)) 0 0 (zA g) := by
  unfold w_X0_keep at h
  refine zMet (own := RX0) [(0, .ref (g.2.2.1 25)), (1, .ref (g.2.2.1 k1))] (by decide +kernel) rfl (Nat.le_of_ble_eq_true rfl) rfl (fun p e s m args below meth c C hr => ?_)
  refine zm_aload_n C dX0_keep_0 rfl 0 rfl ?_
  refine zm_aload_n C dX0_keep_1 rfl 0 rfl ?_
  refine gf_RX0_18 C kd_25 dX0_keep_2 ?_
  refine zm_cq (zr_V (As := [.int (u 25 2)]) (rest := []) C (c_X0_placeAt l g u W (u 25 2) h) wd_443 wd_445 wp_7 wd_5 wd_446 hy_X0_placeAt rfl rfl ⟨by decide, by decide⟩ ⟨by decide, by decide⟩ (ci := 0) (by decide) (zCell_k kd_25) rfl rfl rfl rfl (Nat.le_of_ble_eq_true rfl) dX0_keep_5) (fun M1 hq => ?_) (fun j5 M1 hq => ?_)
  · obtain ⟨rfl, h⟩ := hq
    have h := h.1 rfl
    refine zm_astore_nN (lv' := [(2, .null), (0, .ref (g.2.2.1 25)), (1, .ref (g.2.2.1 k1))]) C dX0_keep_8 rfl (by decide) rfl ?_
    refine zm_aload_nN C dX0_keep_9 rfl 0 rfl ?_
    refine zm_ifnonnullN C dX0_keep_10 ?_
    exact zm_vret C hr dX0_keep_13 ⟨_, rfl, h⟩
  · obtain ⟨rfl, h⟩ := hq
    obtain ⟨hj5, h⟩ := h.2 j5 rfl
    refine zm_astore_n (lv' := [(2, .ref (g.2.2.1 j5)), (0, .ref (g.2.2.1 25)), (1, .ref (g.2.2.1 k1))]) C dX0_keep_8 rfl (by decide) rfl ?_
    refine zm_aload_n C dX0_keep_9 rfl 0 rfl ?_
    refine zm_ifnonnull (tgt := 14) C dX0_keep_10 (by decide) ?_
    refine zm_aload_n C dX0_keep_14 rfl 0 rfl ?_
    refine zm_aload_n C dX0_keep_15 rfl 2 rfl ?_
    refine zm_cv (zr_V (As := [.ref (g.2.2.1 k1)]) (rest := []) C (c_X6_become l g u W j5 k1 hj5 hk1 h) wd_447 wd_311 wd_312 wd_2 wd_313 hy_X6_become rfl rfl ⟨by decide, by decide⟩ ⟨by decide, by decide⟩ (ci := 6) (zkd_lt hj5 (by decide)) (zCell_k hj5) rfl rfl rfl rfl (Nat.le_of_ble_eq_true rfl) dX0_keep_16) (fun M1 hq => ?_)
    obtain ⟨u_4, rfl, h⟩ := hq
    refine zm_aload_n C dX0_keep_19 rfl 1 rfl ?_
    refine zm_aload_n C dX0_keep_20 rfl 1 rfl ?_
    refine gf_RX0_18 C kd_25 dX0_keep_21 ?_
    refine zm_iconst (v := 1) C dX0_keep_24 (by decide) ?_
    refine zm_iadd C dX0_keep_25 ?_
    refine zm_bipush (v := 8) C dX0_keep_26 (by decide) ?_
    refine zm_irem C dX0_keep_28 (by decide) ?_
    refine pf_RX0_18 C kd_25  dX0_keep_29 (fun u_5 hu_5 => ?_)
    have h := h u_5 hu_5
    refine zm_aload_n C dX0_keep_32 rfl 1 rfl ?_
    refine zm_aload_n C dX0_keep_33 rfl 1 rfl ?_
    refine gf_RX0_30 C kd_25 dX0_keep_34 ?_
    refine zm_iconst (v := 1) C dX0_keep_37 (by decide) ?_
    refine zm_iadd C dX0_keep_38 ?_
    refine zm_bipush (v := 8) C dX0_keep_39 (by decide) ?_
    refine zm_mmin C wd_448 wd_322 wd_15 wd_323 (Nat.le_of_ble_eq_true rfl) (Nat.le_of_ble_eq_true rfl) (Nat.le_of_ble_eq_true rfl) (Nat.le_of_ble_eq_true rfl) dX0_keep_41 ?_
    refine pf_RX0_30 C kd_25  dX0_keep_44 (fun u_6 hu_6 => ?_)
    have h := h u_6 hu_6
    exact zm_vret C hr dX0_keep_47 ⟨_, rfl, h⟩
abbrev rm_X0_takeInto : Room := { frames := 4, cells := 0, slots := 0, locals := 263 }
def w_X0_takeInto (k1 : Nat) (u : MU) (Q : MU → Prop) : Prop := ∀ x2_1, x2_1 = ((((u 25 2) + (8 : Int32)) - (1 : Int32)) - (((u 25 2) + (8 : Int32)) - (1 : Int32)) / (8 : Int32) * (8 : Int32)) → w_X0_placeAt u x2_1 (fun r_2 => (r_2 = none → (((u 25 1) = 0) → Q u) ∧ ((¬ (u 25 1) = 0) → Q u)) ∧ (∀ j15, r_2 = some j15 → zkd j15 = 2 ∧ ((((u 25 1) = 0) → Q u) ∧ ((¬ (u 25 1) = 0) → w_X6_become k1 j15 u (fun u_7 => (∀ u_8, u_8 = u2 u_7 25 2 x2_1 → (∀ u_9, u_9 = u2 u_8 25 1 ((u_8 25 1) - (1 : Int32)) → Q u_9)))))))
set_option maxHeartbeats 4000000 in
set_option maxRecDepth 100000 in
theorem c_X0_takeInto (l : Launch) (g : GE) (u : MU) (W : MU × ((Nat → Int64) × (Nat → UInt64))) (k1 : Nat) (hk1 : zkd k1 = 2) {Q : MU → Prop} (h : w_X0_takeInto k1 u Q) : Met l yX0_takeInto (.code yX0_takeInto cX0_takeInto 4 (Option.none : Option Jvm.ClassFile.FieldType) :: TB) rm_X0_takeInto (zPc g (u, W) [.ref (g.2.2.1 25), .ref (g.2.2.1 k1)]) (zQv g (zPxv W Q)) 0 0 (zA g) := by
  unfold w_X0_takeInto at h
  refine zMet (own := RX0) [(0, .ref (g.2.2.1 25)), (1, .ref (g.2.2.1 k1))] (by decide +kernel) rfl (Nat.le_of_ble_eq_true rfl) rfl (fun p e s m args below meth c C hr => ?_)
  refine zm_aload_n C dX0_takeInto_0 rfl 0 rfl ?_
  refine gf_RX0_18 C kd_25 dX0_takeInto_1 ?_
  refine zm_bipush (v := 8) C dX0_takeInto_4 (by decide) ?_
  refine zm_iadd C dX0_takeInto_6 ?_
  refine zm_iconst (v := 1) C dX0_takeInto_7 (by decide) ?_
  refine zm_isub C dX0_takeInto_8 ?_
  refine zm_bipush (v := 8) C dX0_takeInto_9 (by decide) ?_
  refine zm_irem C dX0_takeInto_11 (by decide) ?_
  refine zm_nmI (fun x2_1 hx2_1 => ?_)
  have h := h x2_1 hx2_1
  refine zm_istore_n (lv' := [(2, .int x2_1), (0, .ref (g.2.2.1 25)), (1, .ref (g.2.2.1 k1))]) C dX0_takeInto_12 rfl (by decide) rfl ?_
  refine zm_aload_n C dX0_takeInto_13 rfl 1 rfl ?_
  refine zm_iload_n C dX0_takeInto_14 rfl 0 rfl ?_
  refine zm_cq (zr_V (As := [.int x2_1]) (rest := []) C (c_X0_placeAt l g u W x2_1 h) wd_443 wd_445 wp_7 wd_5 wd_446 hy_X0_placeAt rfl rfl ⟨by decide, by decide⟩ ⟨by decide, by decide⟩ (ci := 0) (by decide) (zCell_k kd_25) rfl rfl rfl rfl (Nat.le_of_ble_eq_true rfl) dX0_takeInto_15) (fun M1 hq => ?_) (fun j15 M1 hq => ?_)
  · obtain ⟨rfl, h⟩ := hq
    have h := h.1 rfl
    refine zm_astore_nN (lv' := [(3, .null), (2, .int x2_1), (0, .ref (g.2.2.1 25)), (1, .ref (g.2.2.1 k1))]) C dX0_takeInto_18 rfl (by decide) rfl ?_
    refine zm_aload_n C dX0_takeInto_19 rfl 2 rfl ?_
    refine gf_RX0_30 C kd_25 dX0_takeInto_20 ?_
    refine zm_if_eq (tgt := 30) C dX0_takeInto_23 (by decide) (fun hc_4 => ?_) (fun hc_4 => ?_)
    · have h := h.1 hc_4
      exact zm_vret C hr dX0_takeInto_30 ⟨_, rfl, h⟩
    · have h := h.2 hc_4
      refine zm_aload_nN C dX0_takeInto_26 rfl 0 rfl ?_
      refine zm_ifnonnullN C dX0_takeInto_27 ?_
      exact zm_vret C hr dX0_takeInto_30 ⟨_, rfl, h⟩
  · obtain ⟨rfl, h⟩ := hq
    obtain ⟨hj15, h⟩ := h.2 j15 rfl
    refine zm_astore_n (lv' := [(3, .ref (g.2.2.1 j15)), (2, .int x2_1), (0, .ref (g.2.2.1 25)), (1, .ref (g.2.2.1 k1))]) C dX0_takeInto_18 rfl (by decide) rfl ?_
    refine zm_aload_n C dX0_takeInto_19 rfl 2 rfl ?_
    refine gf_RX0_30 C kd_25 dX0_takeInto_20 ?_
    refine zm_if_eq (tgt := 30) C dX0_takeInto_23 (by decide) (fun hc_5 => ?_) (fun hc_5 => ?_)
    · have h := h.1 hc_5
      exact zm_vret C hr dX0_takeInto_30 ⟨_, rfl, h⟩
    · have h := h.2 hc_5
      refine zm_aload_n C dX0_takeInto_26 rfl 0 rfl ?_
      refine zm_ifnonnull (tgt := 31) C dX0_takeInto_27 (by decide) ?_
      refine zm_aload_n C dX0_takeInto_31 rfl 3 rfl ?_
      refine zm_aload_n C dX0_takeInto_32 rfl 0 rfl ?_
      refine zm_cv (zr_V (As := [.ref (g.2.2.1 j15)]) (rest := []) C (c_X6_become l g u W k1 j15 hk1 hj15 h) wd_447 wd_311 wd_312 wd_2 wd_313 hy_X6_become rfl rfl ⟨by decide, by decide⟩ ⟨by decide, by decide⟩ (ci := 6) (zkd_lt hk1 (by decide)) (zCell_k hk1) rfl rfl rfl rfl (Nat.le_of_ble_eq_true rfl) dX0_takeInto_33) (fun M1 hq => ?_)
      obtain ⟨u_7, rfl, h⟩ := hq
      refine zm_aload_n C dX0_takeInto_36 rfl 2 rfl ?_
      refine zm_iload_n C dX0_takeInto_37 rfl 1 rfl ?_
      refine pf_RX0_18 C kd_25  dX0_takeInto_38 (fun u_8 hu_8 => ?_)
      have h := h u_8 hu_8
      refine zm_aload_n C dX0_takeInto_41 rfl 2 rfl ?_
      refine zm_dup C dX0_takeInto_42 rfl ?_
      refine gf_RX0_30 C kd_25 dX0_takeInto_43 ?_
      refine zm_iconst (v := 1) C dX0_takeInto_46 (by decide) ?_
      refine zm_isub C dX0_takeInto_47 ?_
      refine pf_RX0_30 C kd_25  dX0_takeInto_48 (fun u_9 hu_9 => ?_)
      have h := h u_9 hu_9
      exact zm_vret C hr dX0_takeInto_51 ⟨_, rfl, h⟩
abbrev rm_X1_has : Room := { frames := 0, cells := 0, slots := 0, locals := 0 }
def w_X1_has (k0 : Nat) (u : MU) (x1 : Int32) (Q : Int32 → Prop) : Prop := ((x1 < 0) → Q (0 : Int32)) ∧ ((¬ x1 < 0) → (((u k0 0) ≤ x1) → Q (0 : Int32)) ∧ ((¬ (u k0 0) ≤ x1) → Q (1 : Int32)))
set_option maxHeartbeats 4000000 in
set_option maxRecDepth 100000 in
theorem c_X1_has (l : Launch) (g : GE) (u : MU) (W : MU × ((Nat → Int64) × (Nat → UInt64))) (k0 : Nat) (hk0 : zkd k0 = 3) (x1 : Int32) {Q : Int32 → Prop} (h : w_X1_has k0 u x1 Q) : Met l yX1_has (.code yX1_has cX1_has 2 (Option.some Jvm.ClassFile.FieldType.boolean) :: TB) rm_X1_has (zPc g (u, W) [.ref (g.2.2.1 k0), .int x1]) (zQi g (zP0 (u, W) Q)) 0 0 (zA g) := by
  unfold w_X1_has at h
  refine zMet (own := RX1) [(0, .ref (g.2.2.1 k0)), (1, .int x1)] (by decide +kernel) rfl (Nat.le_of_ble_eq_true rfl) rfl (fun p e s m args below meth c C hr => ?_)
  refine zm_iload_n C dX1_has_0 rfl 1 rfl ?_
  refine zm_if_lt (tgt := 16) C dX1_has_1 (by decide) (fun hc_1 => ?_) (fun hc_1 => ?_)
  · have h := h.1 hc_1
    refine zm_iconst (v := 0) C dX1_has_16 (by decide) ?_
    exact zm_zret (ty := .boolean) C hr (by decide) dX1_has_17 ⟨rfl, h⟩
  · have h := h.2 hc_1
    refine zm_iload_n C dX1_has_4 rfl 1 rfl ?_
    refine zm_aload_n C dX1_has_5 rfl 0 rfl ?_
    refine gf_RX1_25 C hk0 dX1_has_6 ?_
    refine zm_icmp_ge (tgt := 16) C dX1_has_9 (by decide) (fun hc_2 => ?_) (fun hc_2 => ?_)
    · have h := h.1 hc_2
      refine zm_iconst (v := 0) C dX1_has_16 (by decide) ?_
      exact zm_zret (ty := .boolean) C hr (by decide) dX1_has_17 ⟨rfl, h⟩
    · have h := h.2 hc_2
      refine zm_iconst (v := 1) C dX1_has_12 (by decide) ?_
      refine zm_goto (tgt := 17) C dX1_has_13 (by decide) ?_
      exact zm_zret (ty := .boolean) C hr (by decide) dX1_has_17 ⟨rfl, h⟩
abbrev rm_X9_bitOf : Room := { frames := 0, cells := 0, slots := 0, locals := 0 }
def w_X9_bitOf (x0 : Int32) (Q : Int32 → Prop) : Prop := ((0 ≤ x0) → Q ((1 : Int32) <<< (x0 &&& 31))) ∧ ((¬ 0 ≤ x0) → Q (0 : Int32))
set_option maxHeartbeats 4000000 in
set_option maxRecDepth 100000 in
theorem c_X9_bitOf (l : Launch) (g : GE) (M : Mem) (x0 : Int32) {Q : Int32 → Prop} (h : w_X9_bitOf x0 Q) : Met l yX9_bitOf (.code yX9_bitOf cX9_bitOf 1 (Option.some Jvm.ClassFile.FieldType.int) :: TB) rm_X9_bitOf (zPc g M [.int x0]) (zQi g (zP0 M Q)) 0 0 (zA g) := by
  unfold w_X9_bitOf at h
  refine zMet (own := RX9) [(0, .int x0)] (by decide +kernel) rfl (Nat.le_of_ble_eq_true rfl) rfl (fun p e s m args below meth c C hr => ?_)
  refine zm_iload_n C dX9_bitOf_0 rfl 0 rfl ?_
  refine zm_if_ge (tgt := 8) C dX9_bitOf_1 (by decide) (fun hc_1 => ?_) (fun hc_1 => ?_)
  · have h := h.1 hc_1
    refine zm_iconst (v := 1) C dX9_bitOf_8 (by decide) ?_
    refine zm_iload_n C dX9_bitOf_9 rfl 0 rfl ?_
    refine zm_ishl C dX9_bitOf_10 ?_
    exact zm_iret C hr dX9_bitOf_11 ⟨rfl, h⟩
  · have h := h.2 hc_1
    refine zm_iconst (v := 0) C dX9_bitOf_4 (by decide) ?_
    refine zm_goto (tgt := 11) C dX9_bitOf_5 (by decide) ?_
    exact zm_iret C hr dX9_bitOf_11 ⟨rfl, h⟩
abbrev rm_X1_isTrap : Room := { frames := 1, cells := 0, slots := 0, locals := 20 }
def w_X1_isTrap (k0 : Nat) (u : MU) (x1 : Int32) (Q : Int32 → Prop) : Prop := w_X9_bitOf x1 (fun r_1 => ((((u k0 2) &&& r_1) = 0) → Q (0 : Int32)) ∧ ((¬ ((u k0 2) &&& r_1) = 0) → Q (1 : Int32)))
set_option maxHeartbeats 4000000 in
set_option maxRecDepth 100000 in
theorem c_X1_isTrap (l : Launch) (g : GE) (u : MU) (W : MU × ((Nat → Int64) × (Nat → UInt64))) (k0 : Nat) (hk0 : zkd k0 = 3) (x1 : Int32) {Q : Int32 → Prop} (h : w_X1_isTrap k0 u x1 Q) : Met l yX1_isTrap (.code yX1_isTrap cX1_isTrap 2 (Option.some Jvm.ClassFile.FieldType.boolean) :: TB) rm_X1_isTrap (zPc g (u, W) [.ref (g.2.2.1 k0), .int x1]) (zQi g (zP0 (u, W) Q)) 0 0 (zA g) := by
  unfold w_X1_isTrap at h
  refine zMet (own := RX1) [(0, .ref (g.2.2.1 k0)), (1, .int x1)] (by decide +kernel) rfl (Nat.le_of_ble_eq_true rfl) rfl (fun p e s m args below meth c C hr => ?_)
  refine zm_aload_n C dX1_isTrap_0 rfl 0 rfl ?_
  refine gf_RX1_31 C hk0 dX1_isTrap_1 ?_
  refine zm_iload_n C dX1_isTrap_4 rfl 1 rfl ?_
  refine zm_ci (zr_SN (As := [.int x1]) (rest := [.int (u k0 2)]) C (c_X9_bitOf l g (u, W) x1 h) wd_486 wd_487 wd_1 wd_488 hz_X9_bitOf rfl rfl ⟨by decide, by decide⟩ ⟨by decide, by decide⟩ rfl rfl (Nat.le_of_ble_eq_true rfl) dX1_isTrap_5) (fun r_1 M1 hq => ?_)
  obtain ⟨rfl, h⟩ := hq
  refine zm_iand C dX1_isTrap_8 ?_
  refine zm_if_eq (tgt := 16) C dX1_isTrap_9 (by decide) (fun hc_3 => ?_) (fun hc_3 => ?_)
  · have h := h.1 hc_3
    refine zm_iconst (v := 0) C dX1_isTrap_16 (by decide) ?_
    exact zm_zret (ty := .boolean) C hr (by decide) dX1_isTrap_17 ⟨rfl, h⟩
  · have h := h.2 hc_3
    refine zm_iconst (v := 1) C dX1_isTrap_12 (by decide) ?_
    refine zm_goto (tgt := 17) C dX1_isTrap_13 (by decide) ?_
    exact zm_zret (ty := .boolean) C hr (by decide) dX1_isTrap_17 ⟨rfl, h⟩
abbrev rm_X9_at : Room := { frames := 0, cells := 0, slots := 0, locals := 0 }
def wb_X9_at_10 (k0 : Nat) (u : MU) (Q : Int32 → Prop) : Prop := Q (0 : Int32)
set_option maxHeartbeats 4000000 in
set_option maxRecDepth 100000 in
theorem vb_X9_at_10 {p : Program} {l : Launch} {e : Env} {s : State} {m : MethodId} {args : Array Value} {below : List Frame} {meth : Method} {c : Code} {g : GE} {W : MU × ((Nat → Int64) × (Nat → UInt64))} {u : MU} {k0 : Nat} {Q : Int32 → Prop} (C : zCx p l s m args meth c g RX9 cX9_at 2) (hr : meth.sig.returnType = (Option.some Jvm.ClassFile.FieldType.int)) (hk0 : zkd k0 = 5) (h : wb_X9_at_10  k0 u Q ) : WM p l e rm_X9_at s m args below meth c g 2 0 0 (MQ below (zQi g (zP0 (u, W) Q)) args s 0 0 (zA g)) 10 [] [] (u, W) := by
  unfold wb_X9_at_10 at h
  refine zm_iconst (v := 0) C dX9_at_10 (by decide) ?_
  refine zm_goto (tgt := 17) C dX9_at_11 (by decide) ?_
  exact zm_iret C hr dX9_at_17 ⟨rfl, h⟩
def w_X9_at (k0 : Nat) (u : MU) (x1 : Int32) (Q : Int32 → Prop) : Prop := ((x1 < 0) → wb_X9_at_10  k0 u Q ) ∧ ((¬ x1 < 0) → ((x1 < (Int32.ofNat (zln k0))) → vp_in x1 (zln k0) ∧ (Q (u k0 (x1).toNatClampNeg))) ∧ ((¬ x1 < (Int32.ofNat (zln k0))) → wb_X9_at_10  k0 u Q ))
set_option maxHeartbeats 4000000 in
set_option maxRecDepth 100000 in
theorem c_X9_at (l : Launch) (g : GE) (u : MU) (W : MU × ((Nat → Int64) × (Nat → UInt64))) (k0 : Nat) (hk0 : zkd k0 = 5) (x1 : Int32) {Q : Int32 → Prop} (h : w_X9_at k0 u x1 Q) : Met l yX9_at (.code yX9_at cX9_at 2 (Option.some Jvm.ClassFile.FieldType.int) :: TB) rm_X9_at (zPc g (u, W) [.ref (g.2.2.1 k0), .int x1]) (zQi g (zP0 (u, W) Q)) 0 0 (zA g) := by
  unfold w_X9_at at h
  refine zMet (own := RX9) [(0, .ref (g.2.2.1 k0)), (1, .int x1)] (by decide +kernel) rfl (Nat.le_of_ble_eq_true rfl) rfl (fun p e s m args below meth c C hr => ?_)
  refine zm_iload_n C dX9_at_0 rfl 1 rfl ?_
  refine zm_if_lt (tgt := 10) C dX9_at_1 (by decide) (fun hc_1 => ?_) (fun hc_1 => ?_)
  · have h := h.1 hc_1
    exact zm_sub [] rfl (vb_X9_at_10 C hr hk0   h)
  · have h := h.2 hc_1
    refine zm_iload_n C dX9_at_4 rfl 1 rfl ?_
    refine zm_aload_n C dX9_at_5 rfl 0 rfl ?_
    refine zm_len_x C hk0 rfl dX9_at_6 ?_
    refine zm_icmp_lt (tgt := 14) C dX9_at_7 (by decide) (fun hc_2 => ?_) (fun hc_2 => ?_)
    · have h := h.1 hc_2
      refine zm_aload_n C dX9_at_14 rfl 0 rfl ?_
      refine zm_iload_n C dX9_at_15 rfl 1 rfl ?_
      obtain ⟨hg_3, h⟩ := h
      refine zq_ld_x C hk0 rfl hg_3 dX9_at_16 ?_
      exact zm_iret C hr dX9_at_17 ⟨rfl, h⟩
    · have h := h.2 hc_2
      exact zm_sub [] rfl (vb_X9_at_10 C hr hk0   h)
abbrev rm_X1_pathBetween : Room := { frames := 1, cells := 0, slots := 0, locals := 21 }
def wb_X1_pathBetween_56 (L2 : Int32 → Int32 → Int32 → Prop) (k0 : Nat) (u : MU) (Q : Int32 → Prop) (x1 : Int32) (x2 : Int32) (x3 : Int32) : Prop := ∀ x3_1, x3_1 = x3 + (1 : Int32) → L2 x1 x2 x3_1
set_option maxHeartbeats 4000000 in
set_option maxRecDepth 100000 in
theorem vb_X1_pathBetween_56 {p : Program} {l : Launch} {e : Env} {s : State} {m : MethodId} {args : Array Value} {below : List Frame} {meth : Method} {c : Code} {g : GE} {W : MU × ((Nat → Int64) × (Nat → UInt64))} {u : MU} {k0 : Nat} {Q : Int32 → Prop} (C : zCx p l s m args meth c g RX1 cX1_pathBetween 6) (hr : meth.sig.returnType = (Option.some Jvm.ClassFile.FieldType.int)) (hk0 : zkd k0 = 3) {L2 : Int32 → Int32 → Int32 → Prop} (hL2 : ∀ (x1 : Int32) (x2 : Int32) (x3 : Int32) , L2 x1 x2 x3  → WM p l e rm_X1_pathBetween s m args below meth c g 6 0 0 (MQ below (zQi g (zP0 (u, W) Q)) args s 0 0 (zA g)) 2 [(0, .ref (g.2.2.1 k0)), (1, .int x1), (2, .int x2), (3, .int x3)] [] (u, W)) (x1 : Int32) (x2 : Int32) (x3 : Int32) (h : wb_X1_pathBetween_56 L2 k0 u Q x1 x2 x3) : WM p l e rm_X1_pathBetween s m args below meth c g 6 0 0 (MQ below (zQi g (zP0 (u, W) Q)) args s 0 0 (zA g)) 56 [(0, .ref (g.2.2.1 k0)), (1, .int x1), (2, .int x2), (3, .int x3)] [] (u, W) := by
  unfold wb_X1_pathBetween_56 at h
  obtain ⟨x3_1, hx3_1⟩ : ∃ z, z = x3 + (1 : Int32) := ⟨_, rfl⟩
  have h := h x3_1 hx3_1
  refine zm_iinc (v := x3_1) (lv' := [(3, .int x3_1), (0, .ref (g.2.2.1 k0)), (1, .int x1), (2, .int x2)]) C dX1_pathBetween_56 3 rfl (by rw [hx3_1]; rfl) (by decide) rfl ?_
  refine zm_goto (tgt := 2) C dX1_pathBetween_59 (by decide) ?_
  exact zm_sub [1, 2, 3, 0] rfl (hL2 _ _ _ h)
def wb_X1_pathBetween_42 (L2 : Int32 → Int32 → Int32 → Prop) (k0 : Nat) (u : MU) (Q : Int32 → Prop) (x1 : Int32) (x2 : Int32) (x3 : Int32) (x4 : Int32) (x5 : Int32) : Prop := ((¬ x4 = x2) → wb_X1_pathBetween_56 L2 k0 u Q x1 x2 x3) ∧ ((x4 = x2) → ((¬ x5 = x1) → wb_X1_pathBetween_56 L2 k0 u Q x1 x2 x3) ∧ ((x5 = x1) → Q x3))
set_option maxHeartbeats 4000000 in
set_option maxRecDepth 100000 in
theorem vb_X1_pathBetween_42 {p : Program} {l : Launch} {e : Env} {s : State} {m : MethodId} {args : Array Value} {below : List Frame} {meth : Method} {c : Code} {g : GE} {W : MU × ((Nat → Int64) × (Nat → UInt64))} {u : MU} {k0 : Nat} {Q : Int32 → Prop} (C : zCx p l s m args meth c g RX1 cX1_pathBetween 6) (hr : meth.sig.returnType = (Option.some Jvm.ClassFile.FieldType.int)) (hk0 : zkd k0 = 3) {L2 : Int32 → Int32 → Int32 → Prop} (hL2 : ∀ (x1 : Int32) (x2 : Int32) (x3 : Int32) , L2 x1 x2 x3  → WM p l e rm_X1_pathBetween s m args below meth c g 6 0 0 (MQ below (zQi g (zP0 (u, W) Q)) args s 0 0 (zA g)) 2 [(0, .ref (g.2.2.1 k0)), (1, .int x1), (2, .int x2), (3, .int x3)] [] (u, W)) (x1 : Int32) (x2 : Int32) (x3 : Int32) (x4 : Int32) (x5 : Int32) (h : wb_X1_pathBetween_42 L2 k0 u Q x1 x2 x3 x4 x5) : WM p l e rm_X1_pathBetween s m args below meth c g 6 0 0 (MQ below (zQi g (zP0 (u, W) Q)) args s 0 0 (zA g)) 42 [(0, .ref (g.2.2.1 k0)), (1, .int x1), (2, .int x2), (3, .int x3), (4, .int x4), (5, .int x5)] [] (u, W) := by
  unfold wb_X1_pathBetween_42 at h
  refine zm_iload C dX1_pathBetween_42 4 rfl ?_
  refine zm_iload_n C dX1_pathBetween_44 rfl 2 rfl ?_
  refine zm_icmp_ne (tgt := 56) C dX1_pathBetween_45 (by decide) (fun hc_1 => ?_) (fun hc_1 => ?_)
  · have h := h.1 hc_1
    exact zm_sub [0, 1, 2, 3] rfl (vb_X1_pathBetween_56 C hr hk0 hL2 _ _ _ h)
  · have h := h.2 hc_1
    refine zm_iload C dX1_pathBetween_48 5 rfl ?_
    refine zm_iload_n C dX1_pathBetween_50 rfl 1 rfl ?_
    refine zm_icmp_ne (tgt := 56) C dX1_pathBetween_51 (by decide) (fun hc_2 => ?_) (fun hc_2 => ?_)
    · have h := h.1 hc_2
      exact zm_sub [0, 1, 2, 3] rfl (vb_X1_pathBetween_56 C hr hk0 hL2 _ _ _ h)
    · have h := h.2 hc_2
      refine zm_iload_n C dX1_pathBetween_54 rfl 3 rfl ?_
      exact zm_iret C hr dX1_pathBetween_55 ⟨rfl, h⟩
def wl_X1_pathBetween_2 (k0 : Nat) (u : MU) (Q : Int32 → Prop) : Nat → Int32 → Int32 → Int32 → Prop
  | 0, _, _, _ => False
  | n + 1, x1, x2, x3 => (((u k0 1) ≤ x3) → Q (-1 : Int32)) ∧ ((¬ (u k0 1) ≤ x3) → w_X9_at (k0 + 1) u x3 (fun r_2 => w_X9_at (k0 + 2) u x3 (fun r_4 => ((¬ r_2 = x1) → wb_X1_pathBetween_42 (fun x1' x2' x3' => wl_X1_pathBetween_2 k0 u Q n x1' x2' x3') k0 u Q x1 x2 x3 r_2 r_4) ∧ ((r_2 = x1) → ((r_4 = x2) → Q x3) ∧ ((¬ r_4 = x2) → wb_X1_pathBetween_42 (fun x1' x2' x3' => wl_X1_pathBetween_2 k0 u Q n x1' x2' x3') k0 u Q x1 x2 x3 r_2 r_4)))))
set_option maxHeartbeats 4000000 in
set_option maxRecDepth 100000 in
theorem vl_X1_pathBetween_2 {p : Program} {l : Launch} {e : Env} {s : State} {m : MethodId} {args : Array Value} {below : List Frame} {meth : Method} {c : Code} {g : GE} {W : MU × ((Nat → Int64) × (Nat → UInt64))} {u : MU} {k0 : Nat} {Q : Int32 → Prop} (C : zCx p l s m args meth c g RX1 cX1_pathBetween 6) (hr : meth.sig.returnType = (Option.some Jvm.ClassFile.FieldType.int)) (hk0 : zkd k0 = 3) : ∀ (n : Nat) (x1 : Int32) (x2 : Int32) (x3 : Int32) , wl_X1_pathBetween_2  k0 u Q n x1 x2 x3 → WM p l e rm_X1_pathBetween s m args below meth c g 6 0 0 (MQ below (zQi g (zP0 (u, W) Q)) args s 0 0 (zA g)) 2 [(0, .ref (g.2.2.1 k0)), (1, .int x1), (2, .int x2), (3, .int x3)] [] (u, W) := by
  intro n
  induction n with
  | zero => intro _ _ _ h; exact h.elim
  | succ n ih =>
    intro x1 x2 x3 h
    unfold wl_X1_pathBetween_2 at h
    refine zm_iload_n C dX1_pathBetween_2 rfl 3 rfl ?_
    refine zm_aload_n C dX1_pathBetween_3 rfl 0 rfl ?_
    refine gf_RX1_28 C hk0 dX1_pathBetween_4 ?_
    refine zm_icmp_ge (tgt := 62) C dX1_pathBetween_7 (by decide) (fun hc_1 => ?_) (fun hc_1 => ?_)
    · have h := h.1 hc_1
      refine zm_iconst (v := -1) C dX1_pathBetween_62 (by decide) ?_
      exact zm_iret C hr dX1_pathBetween_63 ⟨rfl, h⟩
    · have h := h.2 hc_1
      refine zm_aload_n C dX1_pathBetween_10 rfl 0 rfl ?_
      refine gf_RX1_15 (k1 := (k0 + 1)) C hk0 rfl dX1_pathBetween_11 ?_
      refine zm_iload_n C dX1_pathBetween_14 rfl 3 rfl ?_
      refine zm_ci (zr_SN (As := [.ref (g.2.2.1 (k0 + 1)), .int x3]) (rest := []) C (c_X9_at l g u W (k0 + 1) (zk3_1 hk0) x3 h) wd_472 wd_473 wd_1 wd_474 hz_X9_at rfl rfl ⟨by decide, by decide⟩ ⟨by decide, by decide⟩ rfl rfl (Nat.le_of_ble_eq_true rfl) dX1_pathBetween_15) (fun r_2 M1 hq => ?_)
      obtain ⟨rfl, h⟩ := hq
      refine zm_istore (lv' := [(4, .int r_2), (0, .ref (g.2.2.1 k0)), (1, .int x1), (2, .int x2), (3, .int x3)]) C dX1_pathBetween_18 (by decide) rfl ?_
      refine zm_aload_n C dX1_pathBetween_20 rfl 1 rfl ?_
      refine gf_RX1_19 (k1 := (k0 + 2)) C hk0 rfl dX1_pathBetween_21 ?_
      refine zm_iload_n C dX1_pathBetween_24 rfl 4 rfl ?_
      refine zm_ci (zr_SN (As := [.ref (g.2.2.1 (k0 + 2)), .int x3]) (rest := []) C (c_X9_at l g u W (k0 + 2) (zk3_2 hk0) x3 h) wd_472 wd_473 wd_1 wd_474 hz_X9_at rfl rfl ⟨by decide, by decide⟩ ⟨by decide, by decide⟩ rfl rfl (Nat.le_of_ble_eq_true rfl) dX1_pathBetween_25) (fun r_4 M1 hq => ?_)
      obtain ⟨rfl, h⟩ := hq
      refine zm_istore (lv' := [(5, .int r_4), (4, .int r_2), (0, .ref (g.2.2.1 k0)), (1, .int x1), (2, .int x2), (3, .int x3)]) C dX1_pathBetween_28 (by decide) rfl ?_
      refine zm_iload C dX1_pathBetween_30 1 rfl ?_
      refine zm_iload_n C dX1_pathBetween_32 rfl 3 rfl ?_
      refine zm_icmp_ne (tgt := 42) C dX1_pathBetween_33 (by decide) (fun hc_6 => ?_) (fun hc_6 => ?_)
      · have h := h.1 hc_6
        exact zm_sub [2, 3, 4, 5, 1, 0] rfl (vb_X1_pathBetween_42 C hr hk0 ih _ _ _ _ _ h)
      · have h := h.2 hc_6
        refine zm_iload C dX1_pathBetween_36 0 rfl ?_
        refine zm_iload_n C dX1_pathBetween_38 rfl 4 rfl ?_
        refine zm_icmp_eq (tgt := 54) C dX1_pathBetween_39 (by decide) (fun hc_7 => ?_) (fun hc_7 => ?_)
        · have h := h.1 hc_7
          refine zm_iload_n C dX1_pathBetween_54 rfl 5 rfl ?_
          exact zm_iret C hr dX1_pathBetween_55 ⟨rfl, h⟩
        · have h := h.2 hc_7
          exact zm_sub [2, 3, 4, 5, 1, 0] rfl (vb_X1_pathBetween_42 C hr hk0 ih _ _ _ _ _ h)
def w_X1_pathBetween (k0 : Nat) (u : MU) (x1 : Int32) (x2 : Int32) (Q : Int32 → Prop) : Prop := ∃ nn, wl_X1_pathBetween_2  k0 u Q nn x1 x2 (0 : Int32)
set_option maxHeartbeats 4000000 in
set_option maxRecDepth 100000 in
theorem c_X1_pathBetween (l : Launch) (g : GE) (u : MU) (W : MU × ((Nat → Int64) × (Nat → UInt64))) (k0 : Nat) (hk0 : zkd k0 = 3) (x1 : Int32) (x2 : Int32) {Q : Int32 → Prop} (h : w_X1_pathBetween k0 u x1 x2 Q) : Met l yX1_pathBetween (.code yX1_pathBetween cX1_pathBetween 6 (Option.some Jvm.ClassFile.FieldType.int) :: TB) rm_X1_pathBetween (zPc g (u, W) [.ref (g.2.2.1 k0), .int x1, .int x2]) (zQi g (zP0 (u, W) Q)) 0 0 (zA g) := by
  unfold w_X1_pathBetween at h
  refine zMet (own := RX1) [(0, .ref (g.2.2.1 k0)), (1, .int x1), (2, .int x2)] (by decide +kernel) rfl (Nat.le_of_ble_eq_true rfl) rfl (fun p e s m args below meth c C hr => ?_)
  refine zm_iconst (v := 0) C dX1_pathBetween_0 (by decide) ?_
  refine zm_istore_n (lv' := [(3, .int (0 : Int32)), (0, .ref (g.2.2.1 k0)), (1, .int x1), (2, .int x2)]) C dX1_pathBetween_1 rfl (by decide) rfl ?_
  obtain ⟨nn, h⟩ := h
  exact zm_sub [1, 2, 3, 0] rfl (vl_X1_pathBetween_2 C hr hk0  nn _ _ _ h)
abbrev rm_X9_put : Room := { frames := 0, cells := 0, slots := 0, locals := 0 }
def w_X9_put (k0 : Nat) (x1 : Int32) (x2 : Int32) (u : MU) (Q : MU → Prop) : Prop := ((x1 < 0) → Q u) ∧ ((¬ x1 < 0) → (((Int32.ofNat (zln k0)) ≤ x1) → Q u) ∧ ((¬ (Int32.ofNat (zln k0)) ≤ x1) → vp_in x1 (zln k0) ∧ (∀ u_4, u_4 = u2 u k0 (x1).toNatClampNeg x2 → Q u_4)))
set_option maxHeartbeats 4000000 in
set_option maxRecDepth 100000 in
theorem c_X9_put (l : Launch) (g : GE) (u : MU) (W : MU × ((Nat → Int64) × (Nat → UInt64))) (k0 : Nat) (hk0 : zkd k0 = 5) (x1 : Int32) (x2 : Int32) {Q : MU → Prop} (h : w_X9_put k0 x1 x2 u Q) : Met l yX9_put (.code yX9_put cX9_put 3 (Option.none : Option Jvm.ClassFile.FieldType) :: TB) rm_X9_put (zPc g (u, W) [.ref (g.2.2.1 k0), .int x1, .int x2]) (zQv g (zPxv W Q)) 0 0 (zA g) := by
  unfold w_X9_put at h
  refine zMet (own := RX9) [(0, .ref (g.2.2.1 k0)), (1, .int x1), (2, .int x2)] (by decide +kernel) rfl (Nat.le_of_ble_eq_true rfl) rfl (fun p e s m args below meth c C hr => ?_)
  refine zm_iload_n C dX9_put_0 rfl 1 rfl ?_
  refine zm_if_lt (tgt := 14) C dX9_put_1 (by decide) (fun hc_1 => ?_) (fun hc_1 => ?_)
  · have h := h.1 hc_1
    exact zm_vret C hr dX9_put_14 ⟨_, rfl, h⟩
  · have h := h.2 hc_1
    refine zm_iload_n C dX9_put_4 rfl 1 rfl ?_
    refine zm_aload_n C dX9_put_5 rfl 0 rfl ?_
    refine zm_len_x C hk0 rfl dX9_put_6 ?_
    refine zm_icmp_ge (tgt := 14) C dX9_put_7 (by decide) (fun hc_2 => ?_) (fun hc_2 => ?_)
    · have h := h.1 hc_2
      exact zm_vret C hr dX9_put_14 ⟨_, rfl, h⟩
    · have h := h.2 hc_2
      refine zm_aload_n C dX9_put_10 rfl 0 rfl ?_
      refine zm_iload_n C dX9_put_11 rfl 1 rfl ?_
      refine zm_iload_n C dX9_put_12 rfl 2 rfl ?_
      obtain ⟨hg_3, h⟩ := h
      refine zq_st_x C hk0 rfl hg_3 dX9_put_13 (fun u_4 hu_4 => ?_)
      have h := h u_4 hu_4
      exact zm_vret C hr dX9_put_14 ⟨_, rfl, h⟩
abbrev rm_X1_turnNear : Room := { frames := 1, cells := 0, slots := 0, locals := 22 }
def w_X1_turnNear (k0 : Nat) (x1 : Int32) (x2 : Int32) (u : MU) (Q : MU → Prop) : Prop := w_X9_at (k0 + 3) u x1 (fun r_1 => w_X9_bitOf x2 (fun r_3 => w_X9_put (k0 + 3) x1 (r_1 ^^^ r_3) u (fun u_6 => w_X9_at (k0 + 3) u_6 x2 (fun r_7 => w_X9_bitOf x1 (fun r_9 => w_X9_put (k0 + 3) x2 (r_7 ^^^ r_9) u_6 (fun u_12 => Q u_12))))))
set_option maxHeartbeats 4000000 in
set_option maxRecDepth 100000 in
theorem c_X1_turnNear (l : Launch) (g : GE) (u : MU) (W : MU × ((Nat → Int64) × (Nat → UInt64))) (k0 : Nat) (hk0 : zkd k0 = 3) (x1 : Int32) (x2 : Int32) {Q : MU → Prop} (h : w_X1_turnNear k0 x1 x2 u Q) : Met l yX1_turnNear (.code yX1_turnNear cX1_turnNear 3 (Option.none : Option Jvm.ClassFile.FieldType) :: TB) rm_X1_turnNear (zPc g (u, W) [.ref (g.2.2.1 k0), .int x1, .int x2]) (zQv g (zPxv W Q)) 0 0 (zA g) := by
  unfold w_X1_turnNear at h
  refine zMet (own := RX1) [(0, .ref (g.2.2.1 k0)), (1, .int x1), (2, .int x2)] (by decide +kernel) rfl (Nat.le_of_ble_eq_true rfl) rfl (fun p e s m args below meth c C hr => ?_)
  refine zm_aload_n C dX1_turnNear_0 rfl 0 rfl ?_
  refine gf_RX1_22 (k1 := (k0 + 3)) C hk0 rfl dX1_turnNear_1 ?_
  refine zm_iload_n C dX1_turnNear_4 rfl 1 rfl ?_
  refine zm_aload_n C dX1_turnNear_5 rfl 0 rfl ?_
  refine gf_RX1_22 (k1 := (k0 + 3)) C hk0 rfl dX1_turnNear_6 ?_
  refine zm_iload_n C dX1_turnNear_9 rfl 1 rfl ?_
  refine zm_ci (zr_SN (As := [.ref (g.2.2.1 (k0 + 3)), .int x1]) (rest := [.int x1, .ref (g.2.2.1 (k0 + 3))]) C (c_X9_at l g u W (k0 + 3) (zk3_3 hk0) x1 h) wd_472 wd_473 wd_1 wd_474 hz_X9_at rfl rfl ⟨by decide, by decide⟩ ⟨by decide, by decide⟩ rfl rfl (Nat.le_of_ble_eq_true rfl) dX1_turnNear_10) (fun r_1 M1 hq => ?_)
  obtain ⟨rfl, h⟩ := hq
  refine zm_iload_n C dX1_turnNear_13 rfl 2 rfl ?_
  refine zm_ci (zr_SN (As := [.int x2]) (rest := [.int r_1, .int x1, .ref (g.2.2.1 (k0 + 3))]) C (c_X9_bitOf l g (u, W) x2 h) wd_486 wd_487 wd_1 wd_488 hz_X9_bitOf rfl rfl ⟨by decide, by decide⟩ ⟨by decide, by decide⟩ rfl rfl (Nat.le_of_ble_eq_true rfl) dX1_turnNear_14) (fun r_3 M1 hq => ?_)
  obtain ⟨rfl, h⟩ := hq
  refine zm_ixor C dX1_turnNear_17 ?_
  refine zm_cv (zr_SN (As := [.ref (g.2.2.1 (k0 + 3)), .int x1, .int (r_1 ^^^ r_3)]) (rest := []) C (c_X9_put l g u W (k0 + 3) (zk3_3 hk0) x1 (r_1 ^^^ r_3) h) wd_479 wd_480 wd_1 wd_481 hz_X9_put rfl rfl ⟨by decide, by decide⟩ ⟨by decide, by decide⟩ rfl rfl (Nat.le_of_ble_eq_true rfl) dX1_turnNear_18) (fun M1 hq => ?_)
  obtain ⟨u_6, rfl, h⟩ := hq
  refine zm_aload_n C dX1_turnNear_21 rfl 0 rfl ?_
  refine gf_RX1_22 (k1 := (k0 + 3)) C hk0 rfl dX1_turnNear_22 ?_
  refine zm_iload_n C dX1_turnNear_25 rfl 2 rfl ?_
  refine zm_aload_n C dX1_turnNear_26 rfl 0 rfl ?_
  refine gf_RX1_22 (k1 := (k0 + 3)) C hk0 rfl dX1_turnNear_27 ?_
  refine zm_iload_n C dX1_turnNear_30 rfl 2 rfl ?_
  refine zm_ci (zr_SN (As := [.ref (g.2.2.1 (k0 + 3)), .int x2]) (rest := [.int x2, .ref (g.2.2.1 (k0 + 3))]) C (c_X9_at l g u_6 W (k0 + 3) (zk3_3 hk0) x2 h) wd_472 wd_473 wd_1 wd_474 hz_X9_at rfl rfl ⟨by decide, by decide⟩ ⟨by decide, by decide⟩ rfl rfl (Nat.le_of_ble_eq_true rfl) dX1_turnNear_31) (fun r_7 M1 hq => ?_)
  obtain ⟨rfl, h⟩ := hq
  refine zm_iload_n C dX1_turnNear_34 rfl 1 rfl ?_
  refine zm_ci (zr_SN (As := [.int x1]) (rest := [.int r_7, .int x2, .ref (g.2.2.1 (k0 + 3))]) C (c_X9_bitOf l g (u_6, W) x1 h) wd_486 wd_487 wd_1 wd_488 hz_X9_bitOf rfl rfl ⟨by decide, by decide⟩ ⟨by decide, by decide⟩ rfl rfl (Nat.le_of_ble_eq_true rfl) dX1_turnNear_35) (fun r_9 M1 hq => ?_)
  obtain ⟨rfl, h⟩ := hq
  refine zm_ixor C dX1_turnNear_38 ?_
  refine zm_cv (zr_SN (As := [.ref (g.2.2.1 (k0 + 3)), .int x2, .int (r_7 ^^^ r_9)]) (rest := []) C (c_X9_put l g u_6 W (k0 + 3) (zk3_3 hk0) x2 (r_7 ^^^ r_9) h) wd_479 wd_480 wd_1 wd_481 hz_X9_put rfl rfl ⟨by decide, by decide⟩ ⟨by decide, by decide⟩ rfl rfl (Nat.le_of_ble_eq_true rfl) dX1_turnNear_39) (fun M1 hq => ?_)
  obtain ⟨u_12, rfl, h⟩ := hq
  exact zm_vret C hr dX1_turnNear_42 ⟨_, rfl, h⟩
abbrev rm_X1_join : Room := { frames := 2, cells := 0, slots := 0, locals := 44 }
def w_X1_join (k0 : Nat) (x1 : Int32) (x2 : Int32) (u : MU) (Q : MU → Prop) : Prop := w_X9_put (k0 + 1) (u k0 1) x1 u (fun u_2 => w_X9_put (k0 + 2) (u_2 k0 1) x2 u_2 (fun u_4 => (∀ u_5, u_5 = u2 u_4 k0 1 ((u_4 k0 1) + (1 : Int32)) → w_X1_turnNear k0 x1 x2 u_5 (fun u_7 => Q u_7))))
set_option maxHeartbeats 4000000 in
set_option maxRecDepth 100000 in
theorem c_X1_join (l : Launch) (g : GE) (u : MU) (W : MU × ((Nat → Int64) × (Nat → UInt64))) (k0 : Nat) (hk0 : zkd k0 = 3) (x1 : Int32) (x2 : Int32) {Q : MU → Prop} (h : w_X1_join k0 x1 x2 u Q) : Met l yX1_join (.code yX1_join cX1_join 3 (Option.none : Option Jvm.ClassFile.FieldType) :: TB) rm_X1_join (zPc g (u, W) [.ref (g.2.2.1 k0), .int x1, .int x2]) (zQv g (zPxv W Q)) 0 0 (zA g) := by
  unfold w_X1_join at h
  refine zMet (own := RX1) [(0, .ref (g.2.2.1 k0)), (1, .int x1), (2, .int x2)] (by decide +kernel) rfl (Nat.le_of_ble_eq_true rfl) rfl (fun p e s m args below meth c C hr => ?_)
  refine zm_aload_n C dX1_join_0 rfl 0 rfl ?_
  refine gf_RX1_15 (k1 := (k0 + 1)) C hk0 rfl dX1_join_1 ?_
  refine zm_aload_n C dX1_join_4 rfl 0 rfl ?_
  refine gf_RX1_28 C hk0 dX1_join_5 ?_
  refine zm_iload_n C dX1_join_8 rfl 1 rfl ?_
  refine zm_cv (zr_SN (As := [.ref (g.2.2.1 (k0 + 1)), .int (u k0 1), .int x1]) (rest := []) C (c_X9_put l g u W (k0 + 1) (zk3_1 hk0) (u k0 1) x1 h) wd_479 wd_480 wd_1 wd_481 hz_X9_put rfl rfl ⟨by decide, by decide⟩ ⟨by decide, by decide⟩ rfl rfl (Nat.le_of_ble_eq_true rfl) dX1_join_9) (fun M1 hq => ?_)
  obtain ⟨u_2, rfl, h⟩ := hq
  refine zm_aload_n C dX1_join_12 rfl 0 rfl ?_
  refine gf_RX1_19 (k1 := (k0 + 2)) C hk0 rfl dX1_join_13 ?_
  refine zm_aload_n C dX1_join_16 rfl 0 rfl ?_
  refine gf_RX1_28 C hk0 dX1_join_17 ?_
  refine zm_iload_n C dX1_join_20 rfl 2 rfl ?_
  refine zm_cv (zr_SN (As := [.ref (g.2.2.1 (k0 + 2)), .int (u_2 k0 1), .int x2]) (rest := []) C (c_X9_put l g u_2 W (k0 + 2) (zk3_2 hk0) (u_2 k0 1) x2 h) wd_479 wd_480 wd_1 wd_481 hz_X9_put rfl rfl ⟨by decide, by decide⟩ ⟨by decide, by decide⟩ rfl rfl (Nat.le_of_ble_eq_true rfl) dX1_join_21) (fun M1 hq => ?_)
  obtain ⟨u_4, rfl, h⟩ := hq
  refine zm_aload_n C dX1_join_24 rfl 0 rfl ?_
  refine zm_dup C dX1_join_25 rfl ?_
  refine gf_RX1_28 C hk0 dX1_join_26 ?_
  refine zm_iconst (v := 1) C dX1_join_29 (by decide) ?_
  refine zm_iadd C dX1_join_30 ?_
  refine pf_RX1_28 C hk0  dX1_join_31 (fun u_5 hu_5 => ?_)
  have h := h u_5 hu_5
  refine zm_aload_n C dX1_join_34 rfl 0 rfl ?_
  refine zm_iload_n C dX1_join_35 rfl 1 rfl ?_
  refine zm_iload_n C dX1_join_36 rfl 2 rfl ?_
  refine zm_cv (zr_V (As := [.int x1, .int x2]) (rest := []) C (c_X1_turnNear l g u_5 W k0 hk0 x1 x2 h) wd_482 wd_483 wd_484 wd_3 wd_485 hy_X1_turnNear rfl rfl ⟨by decide, by decide⟩ ⟨by decide, by decide⟩ (ci := 1) (zkd_lt hk0 (by decide)) (zCell_k hk0) rfl rfl rfl rfl (Nat.le_of_ble_eq_true rfl) dX1_join_37) (fun M1 hq => ?_)
  obtain ⟨u_7, rfl, h⟩ := hq
  exact zm_vret C hr dX1_join_40 ⟨_, rfl, h⟩
abbrev rm_X1_part : Room := { frames := 2, cells := 0, slots := 0, locals := 44 }
def wl_X1_part_32 (k0 : Nat) (Q : MU → Prop) : Nat → Int32 → MU → Prop
  | 0, _, _ => False
  | n + 1, x2, u => (((u k0 1) ≤ x2) → Q u) ∧ ((¬ (u k0 1) ≤ x2) → w_X9_at (k0 + 1) u (x2 + (1 : Int32)) (fun r_2 => w_X9_put (k0 + 1) x2 r_2 u (fun u_5 => w_X9_at (k0 + 2) u_5 (x2 + (1 : Int32)) (fun r_6 => w_X9_put (k0 + 2) x2 r_6 u_5 (fun u_9 => ∀ x2_10, x2_10 = x2 + (1 : Int32) → wl_X1_part_32  k0 Q n x2_10 u_9)))))
set_option maxHeartbeats 4000000 in
set_option maxRecDepth 100000 in
theorem vl_X1_part_32 {p : Program} {l : Launch} {e : Env} {s : State} {m : MethodId} {args : Array Value} {below : List Frame} {meth : Method} {c : Code} {g : GE} {W : MU × ((Nat → Int64) × (Nat → UInt64))} {k0 : Nat} {Q : MU → Prop} (C : zCx p l s m args meth c g RX1 cX1_part 3) (hr : meth.sig.returnType = (Option.none : Option Jvm.ClassFile.FieldType)) (hk0 : zkd k0 = 3) : ∀ (n : Nat) (x2 : Int32) (u : MU) , wl_X1_part_32  k0 Q n x2 u → WM p l e rm_X1_part s m args below meth c g 3 0 0 (MQ below (zQv g (zPxv W Q)) args s 0 0 (zA g)) 32 [(0, .ref (g.2.2.1 k0)), (2, .int x2)] [] (u, W) := by
  intro n
  induction n with
  | zero => intro _ _ h; exact h.elim
  | succ n ih =>
    intro x2 u h
    unfold wl_X1_part_32 at h
    refine zm_iload_n C dX1_part_32 rfl 1 rfl ?_
    refine zm_aload_n C dX1_part_33 rfl 0 rfl ?_
    refine gf_RX1_28 C hk0 dX1_part_34 ?_
    refine zm_icmp_ge (tgt := 82) C dX1_part_37 (by decide) (fun hc_1 => ?_) (fun hc_1 => ?_)
    · have h := h.1 hc_1
      exact zm_vret C hr dX1_part_82 ⟨_, rfl, h⟩
    · have h := h.2 hc_1
      refine zm_aload_n C dX1_part_40 rfl 0 rfl ?_
      refine gf_RX1_15 (k1 := (k0 + 1)) C hk0 rfl dX1_part_41 ?_
      refine zm_iload_n C dX1_part_44 rfl 1 rfl ?_
      refine zm_aload_n C dX1_part_45 rfl 0 rfl ?_
      refine gf_RX1_15 (k1 := (k0 + 1)) C hk0 rfl dX1_part_46 ?_
      refine zm_iload_n C dX1_part_49 rfl 1 rfl ?_
      refine zm_iconst (v := 1) C dX1_part_50 (by decide) ?_
      refine zm_iadd C dX1_part_51 ?_
      refine zm_ci (zr_SN (As := [.ref (g.2.2.1 (k0 + 1)), .int (x2 + (1 : Int32))]) (rest := [.int x2, .ref (g.2.2.1 (k0 + 1))]) C (c_X9_at l g u W (k0 + 1) (zk3_1 hk0) (x2 + (1 : Int32)) h) wd_472 wd_473 wd_1 wd_474 hz_X9_at rfl rfl ⟨by decide, by decide⟩ ⟨by decide, by decide⟩ rfl rfl (Nat.le_of_ble_eq_true rfl) dX1_part_52) (fun r_2 M1 hq => ?_)
      obtain ⟨rfl, h⟩ := hq
      refine zm_cv (zr_SN (As := [.ref (g.2.2.1 (k0 + 1)), .int x2, .int r_2]) (rest := []) C (c_X9_put l g u W (k0 + 1) (zk3_1 hk0) x2 r_2 h) wd_479 wd_480 wd_1 wd_481 hz_X9_put rfl rfl ⟨by decide, by decide⟩ ⟨by decide, by decide⟩ rfl rfl (Nat.le_of_ble_eq_true rfl) dX1_part_55) (fun M1 hq => ?_)
      obtain ⟨u_5, rfl, h⟩ := hq
      refine zm_aload_n C dX1_part_58 rfl 0 rfl ?_
      refine gf_RX1_19 (k1 := (k0 + 2)) C hk0 rfl dX1_part_59 ?_
      refine zm_iload_n C dX1_part_62 rfl 1 rfl ?_
      refine zm_aload_n C dX1_part_63 rfl 0 rfl ?_
      refine gf_RX1_19 (k1 := (k0 + 2)) C hk0 rfl dX1_part_64 ?_
      refine zm_iload_n C dX1_part_67 rfl 1 rfl ?_
      refine zm_iconst (v := 1) C dX1_part_68 (by decide) ?_
      refine zm_iadd C dX1_part_69 ?_
      refine zm_ci (zr_SN (As := [.ref (g.2.2.1 (k0 + 2)), .int (x2 + (1 : Int32))]) (rest := [.int x2, .ref (g.2.2.1 (k0 + 2))]) C (c_X9_at l g u_5 W (k0 + 2) (zk3_2 hk0) (x2 + (1 : Int32)) h) wd_472 wd_473 wd_1 wd_474 hz_X9_at rfl rfl ⟨by decide, by decide⟩ ⟨by decide, by decide⟩ rfl rfl (Nat.le_of_ble_eq_true rfl) dX1_part_70) (fun r_6 M1 hq => ?_)
      obtain ⟨rfl, h⟩ := hq
      refine zm_cv (zr_SN (As := [.ref (g.2.2.1 (k0 + 2)), .int x2, .int r_6]) (rest := []) C (c_X9_put l g u_5 W (k0 + 2) (zk3_2 hk0) x2 r_6 h) wd_479 wd_480 wd_1 wd_481 hz_X9_put rfl rfl ⟨by decide, by decide⟩ ⟨by decide, by decide⟩ rfl rfl (Nat.le_of_ble_eq_true rfl) dX1_part_73) (fun M1 hq => ?_)
      obtain ⟨u_9, rfl, h⟩ := hq
      obtain ⟨x2_10, hx2_10⟩ : ∃ z, z = x2 + (1 : Int32) := ⟨_, rfl⟩
      have h := h x2_10 hx2_10
      refine zm_iinc (v := x2_10) (lv' := [(2, .int x2_10), (0, .ref (g.2.2.1 k0))]) C dX1_part_76 1 rfl (by rw [hx2_10]; rfl) (by decide) rfl ?_
      refine zm_goto (tgt := 32) C dX1_part_79 (by decide) ?_
      exact zm_sub [1, 0] rfl (ih _ _ h)
def w_X1_part (k0 : Nat) (x1 : Int32) (u : MU) (Q : MU → Prop) : Prop := w_X9_at (k0 + 1) u x1 (fun r_1 => w_X9_at (k0 + 2) u x1 (fun r_3 => w_X1_turnNear k0 r_1 r_3 u (fun u_6 => (∀ u_7, u_7 = u2 u_6 k0 1 ((u_6 k0 1) - (1 : Int32)) → ∃ nn, wl_X1_part_32  k0 Q nn x1 u_7))))
set_option maxHeartbeats 4000000 in
set_option maxRecDepth 100000 in
theorem c_X1_part (l : Launch) (g : GE) (u : MU) (W : MU × ((Nat → Int64) × (Nat → UInt64))) (k0 : Nat) (hk0 : zkd k0 = 3) (x1 : Int32) {Q : MU → Prop} (h : w_X1_part k0 x1 u Q) : Met l yX1_part (.code yX1_part cX1_part 3 (Option.none : Option Jvm.ClassFile.FieldType) :: TB) rm_X1_part (zPc g (u, W) [.ref (g.2.2.1 k0), .int x1]) (zQv g (zPxv W Q)) 0 0 (zA g) := by
  unfold w_X1_part at h
  refine zMet (own := RX1) [(0, .ref (g.2.2.1 k0)), (1, .int x1)] (by decide +kernel) rfl (Nat.le_of_ble_eq_true rfl) rfl (fun p e s m args below meth c C hr => ?_)
  refine zm_aload_n C dX1_part_0 rfl 0 rfl ?_
  refine zm_aload_n C dX1_part_1 rfl 0 rfl ?_
  refine gf_RX1_15 (k1 := (k0 + 1)) C hk0 rfl dX1_part_2 ?_
  refine zm_iload_n C dX1_part_5 rfl 1 rfl ?_
  refine zm_ci (zr_SN (As := [.ref (g.2.2.1 (k0 + 1)), .int x1]) (rest := [.ref (g.2.2.1 k0)]) C (c_X9_at l g u W (k0 + 1) (zk3_1 hk0) x1 h) wd_472 wd_473 wd_1 wd_474 hz_X9_at rfl rfl ⟨by decide, by decide⟩ ⟨by decide, by decide⟩ rfl rfl (Nat.le_of_ble_eq_true rfl) dX1_part_6) (fun r_1 M1 hq => ?_)
  obtain ⟨rfl, h⟩ := hq
  refine zm_aload_n C dX1_part_9 rfl 0 rfl ?_
  refine gf_RX1_19 (k1 := (k0 + 2)) C hk0 rfl dX1_part_10 ?_
  refine zm_iload_n C dX1_part_13 rfl 1 rfl ?_
  refine zm_ci (zr_SN (As := [.ref (g.2.2.1 (k0 + 2)), .int x1]) (rest := [.int r_1, .ref (g.2.2.1 k0)]) C (c_X9_at l g u W (k0 + 2) (zk3_2 hk0) x1 h) wd_472 wd_473 wd_1 wd_474 hz_X9_at rfl rfl ⟨by decide, by decide⟩ ⟨by decide, by decide⟩ rfl rfl (Nat.le_of_ble_eq_true rfl) dX1_part_14) (fun r_3 M1 hq => ?_)
  obtain ⟨rfl, h⟩ := hq
  refine zm_cv (zr_V (As := [.int r_1, .int r_3]) (rest := []) C (c_X1_turnNear l g u W k0 hk0 r_1 r_3 h) wd_482 wd_483 wd_484 wd_3 wd_485 hy_X1_turnNear rfl rfl ⟨by decide, by decide⟩ ⟨by decide, by decide⟩ (ci := 1) (zkd_lt hk0 (by decide)) (zCell_k hk0) rfl rfl rfl rfl (Nat.le_of_ble_eq_true rfl) dX1_part_17) (fun M1 hq => ?_)
  obtain ⟨u_6, rfl, h⟩ := hq
  refine zm_aload_n C dX1_part_20 rfl 0 rfl ?_
  refine zm_dup C dX1_part_21 rfl ?_
  refine gf_RX1_28 C hk0 dX1_part_22 ?_
  refine zm_iconst (v := 1) C dX1_part_25 (by decide) ?_
  refine zm_isub C dX1_part_26 ?_
  refine pf_RX1_28 C hk0  dX1_part_27 (fun u_7 hu_7 => ?_)
  have h := h u_7 hu_7
  refine zm_iload_n C dX1_part_30 rfl 1 rfl ?_
  refine zm_istore_n (lv' := [(2, .int x1), (0, .ref (g.2.2.1 k0)), (1, .int x1)]) C dX1_part_31 rfl (by decide) rfl ?_
  obtain ⟨nn, h⟩ := h
  exact zm_sub [1, 0] rfl (vl_X1_part_32 C hr hk0  nn _ _ h)
abbrev rm_X1_fits : Room := { frames := 1, cells := 0, slots := 0, locals := 21 }
def w_X1_fits (k0 : Nat) (u : MU) (x1 : Int32) (x2 : Int32) (x3 : Int32) (Q : Int32 → Prop) : Prop := w_X1_has k0 u x1 (fun r_1 => ((r_1 = 0) → Q (0 : Int32)) ∧ ((¬ r_1 = 0) → w_X1_has k0 u x2 (fun r_4 => ((r_4 = 0) → Q (0 : Int32)) ∧ ((¬ r_4 = 0) → ((¬ x1 = x2) → ((¬ (u k0 3) = (1 : Int32)) → w_X1_has k0 u x3 (fun r_9 => ((r_9 = 0) → Q (0 : Int32)) ∧ ((¬ r_9 = 0) → ((x3 ≤ x2) → Q (0 : Int32)) ∧ ((¬ x3 ≤ x2) → ((x3 = x1) → Q (0 : Int32)) ∧ ((¬ x3 = x1) → Q (1 : Int32)))))) ∧ (((u k0 3) = (1 : Int32)) → ((¬ x3 = (-1 : Int32)) → Q (0 : Int32)) ∧ ((x3 = (-1 : Int32)) → Q (1 : Int32)))) ∧ ((x1 = x2) → Q (0 : Int32))))))
set_option maxHeartbeats 4000000 in
set_option maxRecDepth 100000 in
theorem c_X1_fits (l : Launch) (g : GE) (u : MU) (W : MU × ((Nat → Int64) × (Nat → UInt64))) (k0 : Nat) (hk0 : zkd k0 = 3) (x1 : Int32) (x2 : Int32) (x3 : Int32) {Q : Int32 → Prop} (h : w_X1_fits k0 u x1 x2 x3 Q) : Met l yX1_fits (.code yX1_fits cX1_fits 4 (Option.some Jvm.ClassFile.FieldType.boolean) :: TB) rm_X1_fits (zPc g (u, W) [.ref (g.2.2.1 k0), .int x1, .int x2, .int x3]) (zQi g (zP0 (u, W) Q)) 0 0 (zA g) := by
  unfold w_X1_fits at h
  refine zMet (own := RX1) [(0, .ref (g.2.2.1 k0)), (1, .int x1), (2, .int x2), (3, .int x3)] (by decide +kernel) rfl (Nat.le_of_ble_eq_true rfl) rfl (fun p e s m args below meth c C hr => ?_)
  refine zm_aload_n C dX1_fits_0 rfl 0 rfl ?_
  refine zm_iload_n C dX1_fits_1 rfl 1 rfl ?_
  refine zm_ci (zr_V (As := [.int x1]) (rest := []) C (c_X1_has l g u W k0 hk0 x1 h) wd_606 wd_465 wd_466 wd_3 wd_467 hy_X1_has rfl rfl ⟨by decide, by decide⟩ ⟨by decide, by decide⟩ (ci := 1) (zkd_lt hk0 (by decide)) (zCell_k hk0) rfl rfl rfl rfl (Nat.le_of_ble_eq_true rfl) dX1_fits_2) (fun r_1 M1 hq => ?_)
  obtain ⟨rfl, h⟩ := hq
  refine zm_if_eq (tgt := 21) C dX1_fits_5 (by decide) (fun hc_3 => ?_) (fun hc_3 => ?_)
  · have h := h.1 hc_3
    refine zm_iconst (v := 0) C dX1_fits_21 (by decide) ?_
    exact zm_zret (ty := .boolean) C hr (by decide) dX1_fits_22 ⟨rfl, h⟩
  · have h := h.2 hc_3
    refine zm_aload_n C dX1_fits_8 rfl 0 rfl ?_
    refine zm_iload_n C dX1_fits_9 rfl 2 rfl ?_
    refine zm_ci (zr_V (As := [.int x2]) (rest := []) C (c_X1_has l g u W k0 hk0 x2 h) wd_606 wd_465 wd_466 wd_3 wd_467 hy_X1_has rfl rfl ⟨by decide, by decide⟩ ⟨by decide, by decide⟩ (ci := 1) (zkd_lt hk0 (by decide)) (zCell_k hk0) rfl rfl rfl rfl (Nat.le_of_ble_eq_true rfl) dX1_fits_10) (fun r_4 M1 hq => ?_)
    obtain ⟨rfl, h⟩ := hq
    refine zm_if_eq (tgt := 21) C dX1_fits_13 (by decide) (fun hc_6 => ?_) (fun hc_6 => ?_)
    · have h := h.1 hc_6
      refine zm_iconst (v := 0) C dX1_fits_21 (by decide) ?_
      exact zm_zret (ty := .boolean) C hr (by decide) dX1_fits_22 ⟨rfl, h⟩
    · have h := h.2 hc_6
      refine zm_iload_n C dX1_fits_16 rfl 1 rfl ?_
      refine zm_iload_n C dX1_fits_17 rfl 2 rfl ?_
      refine zm_icmp_ne (tgt := 23) C dX1_fits_18 (by decide) (fun hc_7 => ?_) (fun hc_7 => ?_)
      · have h := h.1 hc_7
        refine zm_aload_n C dX1_fits_23 rfl 0 rfl ?_
        refine gf_RX1_9 C hk0 dX1_fits_24 ?_
        refine zm_iconst (v := 1) C dX1_fits_27 (by decide) ?_
        refine zm_icmp_ne (tgt := 42) C dX1_fits_28 (by decide) (fun hc_8 => ?_) (fun hc_8 => ?_)
        · have h := h.1 hc_8
          refine zm_aload_n C dX1_fits_42 rfl 0 rfl ?_
          refine zm_iload_n C dX1_fits_43 rfl 3 rfl ?_
          refine zm_ci (zr_V (As := [.int x3]) (rest := []) C (c_X1_has l g u W k0 hk0 x3 h) wd_606 wd_465 wd_466 wd_3 wd_467 hy_X1_has rfl rfl ⟨by decide, by decide⟩ ⟨by decide, by decide⟩ (ci := 1) (zkd_lt hk0 (by decide)) (zCell_k hk0) rfl rfl rfl rfl (Nat.le_of_ble_eq_true rfl) dX1_fits_44) (fun r_9 M1 hq => ?_)
          obtain ⟨rfl, h⟩ := hq
          refine zm_if_eq (tgt := 64) C dX1_fits_47 (by decide) (fun hc_11 => ?_) (fun hc_11 => ?_)
          · have h := h.1 hc_11
            refine zm_iconst (v := 0) C dX1_fits_64 (by decide) ?_
            exact zm_zret (ty := .boolean) C hr (by decide) dX1_fits_65 ⟨rfl, h⟩
          · have h := h.2 hc_11
            refine zm_iload_n C dX1_fits_50 rfl 3 rfl ?_
            refine zm_iload_n C dX1_fits_51 rfl 2 rfl ?_
            refine zm_icmp_le (tgt := 64) C dX1_fits_52 (by decide) (fun hc_12 => ?_) (fun hc_12 => ?_)
            · have h := h.1 hc_12
              refine zm_iconst (v := 0) C dX1_fits_64 (by decide) ?_
              exact zm_zret (ty := .boolean) C hr (by decide) dX1_fits_65 ⟨rfl, h⟩
            · have h := h.2 hc_12
              refine zm_iload_n C dX1_fits_55 rfl 3 rfl ?_
              refine zm_iload_n C dX1_fits_56 rfl 1 rfl ?_
              refine zm_icmp_eq (tgt := 64) C dX1_fits_57 (by decide) (fun hc_13 => ?_) (fun hc_13 => ?_)
              · have h := h.1 hc_13
                refine zm_iconst (v := 0) C dX1_fits_64 (by decide) ?_
                exact zm_zret (ty := .boolean) C hr (by decide) dX1_fits_65 ⟨rfl, h⟩
              · have h := h.2 hc_13
                refine zm_iconst (v := 1) C dX1_fits_60 (by decide) ?_
                refine zm_goto (tgt := 65) C dX1_fits_61 (by decide) ?_
                exact zm_zret (ty := .boolean) C hr (by decide) dX1_fits_65 ⟨rfl, h⟩
        · have h := h.2 hc_8
          refine zm_iload_n C dX1_fits_31 rfl 3 rfl ?_
          refine zm_iconst (v := -1) C dX1_fits_32 (by decide) ?_
          refine zm_icmp_ne (tgt := 40) C dX1_fits_33 (by decide) (fun hc_14 => ?_) (fun hc_14 => ?_)
          · have h := h.1 hc_14
            refine zm_iconst (v := 0) C dX1_fits_40 (by decide) ?_
            exact zm_zret (ty := .boolean) C hr (by decide) dX1_fits_41 ⟨rfl, h⟩
          · have h := h.2 hc_14
            refine zm_iconst (v := 1) C dX1_fits_36 (by decide) ?_
            refine zm_goto (tgt := 41) C dX1_fits_37 (by decide) ?_
            exact zm_zret (ty := .boolean) C hr (by decide) dX1_fits_41 ⟨rfl, h⟩
      · have h := h.2 hc_7
        refine zm_iconst (v := 0) C dX1_fits_21 (by decide) ?_
        exact zm_zret (ty := .boolean) C hr (by decide) dX1_fits_22 ⟨rfl, h⟩
abbrev rm_X9_foxOf : Room := { frames := 0, cells := 0, slots := 0, locals := 0 }
def w_X9_foxOf (x0 : Int32) (Q : Int32 → Prop) : Prop := Q (x0 / (162 : Int32))
set_option maxHeartbeats 4000000 in
set_option maxRecDepth 100000 in
theorem c_X9_foxOf (l : Launch) (g : GE) (M : Mem) (x0 : Int32) {Q : Int32 → Prop} (h : w_X9_foxOf x0 Q) : Met l yX9_foxOf (.code yX9_foxOf cX9_foxOf 1 (Option.some Jvm.ClassFile.FieldType.int) :: TB) rm_X9_foxOf (zPc g M [.int x0]) (zQi g (zP0 M Q)) 0 0 (zA g) := by
  unfold w_X9_foxOf at h
  refine zMet (own := RX9) [(0, .int x0)] (by decide +kernel) rfl (Nat.le_of_ble_eq_true rfl) rfl (fun p e s m args below meth c C hr => ?_)
  refine zm_iload_n C dX9_foxOf_0 rfl 0 rfl ?_
  refine zm_sipush (v := 162) C dX9_foxOf_1 (by decide) ?_
  refine zm_idiv C dX9_foxOf_4 (by decide) ?_
  exact zm_iret C hr dX9_foxOf_5 ⟨rfl, h⟩
abbrev rm_X9_firstOf : Room := { frames := 0, cells := 0, slots := 0, locals := 0 }
def w_X9_firstOf (x0 : Int32) (Q : Int32 → Prop) : Prop := Q ((x0 - x0 / (162 : Int32) * (162 : Int32)) / (18 : Int32))
set_option maxHeartbeats 4000000 in
set_option maxRecDepth 100000 in
theorem c_X9_firstOf (l : Launch) (g : GE) (M : Mem) (x0 : Int32) {Q : Int32 → Prop} (h : w_X9_firstOf x0 Q) : Met l yX9_firstOf (.code yX9_firstOf cX9_firstOf 1 (Option.some Jvm.ClassFile.FieldType.int) :: TB) rm_X9_firstOf (zPc g M [.int x0]) (zQi g (zP0 M Q)) 0 0 (zA g) := by
  unfold w_X9_firstOf at h
  refine zMet (own := RX9) [(0, .int x0)] (by decide +kernel) rfl (Nat.le_of_ble_eq_true rfl) rfl (fun p e s m args below meth c C hr => ?_)
  refine zm_iload_n C dX9_firstOf_0 rfl 0 rfl ?_
  refine zm_sipush (v := 162) C dX9_firstOf_1 (by decide) ?_
  refine zm_irem C dX9_firstOf_4 (by decide) ?_
  refine zm_bipush (v := 18) C dX9_firstOf_5 (by decide) ?_
  refine zm_idiv C dX9_firstOf_7 (by decide) ?_
  exact zm_iret C hr dX9_firstOf_8 ⟨rfl, h⟩
abbrev rm_X9_secondOf : Room := { frames := 0, cells := 0, slots := 0, locals := 0 }
def w_X9_secondOf (x0 : Int32) (Q : Int32 → Prop) : Prop := Q (((x0 - x0 / (18 : Int32) * (18 : Int32)) / (2 : Int32)) - (1 : Int32))
set_option maxHeartbeats 4000000 in
set_option maxRecDepth 100000 in
theorem c_X9_secondOf (l : Launch) (g : GE) (M : Mem) (x0 : Int32) {Q : Int32 → Prop} (h : w_X9_secondOf x0 Q) : Met l yX9_secondOf (.code yX9_secondOf cX9_secondOf 1 (Option.some Jvm.ClassFile.FieldType.int) :: TB) rm_X9_secondOf (zPc g M [.int x0]) (zQi g (zP0 M Q)) 0 0 (zA g) := by
  unfold w_X9_secondOf at h
  refine zMet (own := RX9) [(0, .int x0)] (by decide +kernel) rfl (Nat.le_of_ble_eq_true rfl) rfl (fun p e s m args below meth c C hr => ?_)
  refine zm_iload_n C dX9_secondOf_0 rfl 0 rfl ?_
  refine zm_bipush (v := 18) C dX9_secondOf_1 (by decide) ?_
  refine zm_irem C dX9_secondOf_3 (by decide) ?_
  refine zm_iconst (v := 2) C dX9_secondOf_4 (by decide) ?_
  refine zm_idiv C dX9_secondOf_5 (by decide) ?_
  refine zm_iconst (v := 1) C dX9_secondOf_6 (by decide) ?_
  refine zm_isub C dX9_secondOf_7 ?_
  exact zm_iret C hr dX9_secondOf_8 ⟨rfl, h⟩
abbrev rm_X1_holds : Room := { frames := 2, cells := 0, slots := 0, locals := 44 }
def w_X1_holds (k0 : Nat) (u : MU) (x1 : Int32) (Q : Int32 → Prop) : Prop := ((x1 < 0) → Q (0 : Int32)) ∧ ((¬ x1 < 0) → ((x1 < (1296 : Int32)) → w_X9_foxOf x1 (fun r_3 => w_X9_firstOf x1 (fun r_5 => w_X9_secondOf x1 (fun r_7 => w_X1_fits k0 u r_3 r_5 r_7 (fun r_9 => narrow .boolean (.int r_9) = .int r_9 ∧ Q r_9))))) ∧ ((¬ x1 < (1296 : Int32)) → Q (0 : Int32)))
set_option maxHeartbeats 4000000 in
set_option maxRecDepth 100000 in
theorem c_X1_holds (l : Launch) (g : GE) (u : MU) (W : MU × ((Nat → Int64) × (Nat → UInt64))) (k0 : Nat) (hk0 : zkd k0 = 3) (x1 : Int32) {Q : Int32 → Prop} (h : w_X1_holds k0 u x1 Q) : Met l yX1_holds (.code yX1_holds cX1_holds 2 (Option.some Jvm.ClassFile.FieldType.boolean) :: TB) rm_X1_holds (zPc g (u, W) [.ref (g.2.2.1 k0), .int x1]) (zQi g (zP0 (u, W) Q)) 0 0 (zA g) := by
  unfold w_X1_holds at h
  refine zMet (own := RX1) [(0, .ref (g.2.2.1 k0)), (1, .int x1)] (by decide +kernel) rfl (Nat.le_of_ble_eq_true rfl) rfl (fun p e s m args below meth c C hr => ?_)
  refine zm_iload_n C dX1_holds_0 rfl 1 rfl ?_
  refine zm_if_lt (tgt := 11) C dX1_holds_1 (by decide) (fun hc_1 => ?_) (fun hc_1 => ?_)
  · have h := h.1 hc_1
    refine zm_iconst (v := 0) C dX1_holds_11 (by decide) ?_
    exact zm_zret (ty := .boolean) C hr (by decide) dX1_holds_12 ⟨rfl, h⟩
  · have h := h.2 hc_1
    refine zm_iload_n C dX1_holds_4 rfl 1 rfl ?_
    refine zm_sipush (v := 1296) C dX1_holds_5 (by decide) ?_
    refine zm_icmp_lt (tgt := 13) C dX1_holds_8 (by decide) (fun hc_2 => ?_) (fun hc_2 => ?_)
    · have h := h.1 hc_2
      refine zm_aload_n C dX1_holds_13 rfl 0 rfl ?_
      refine zm_iload_n C dX1_holds_14 rfl 1 rfl ?_
      refine zm_ci (zr_SN (As := [.int x1]) (rest := [.ref (g.2.2.1 k0)]) C (c_X9_foxOf l g (u, W) x1 h) wd_625 wd_626 wd_1 wd_627 hz_X9_foxOf rfl rfl ⟨by decide, by decide⟩ ⟨by decide, by decide⟩ rfl rfl (Nat.le_of_ble_eq_true rfl) dX1_holds_15) (fun r_3 M1 hq => ?_)
      obtain ⟨rfl, h⟩ := hq
      refine zm_iload_n C dX1_holds_18 rfl 1 rfl ?_
      refine zm_ci (zr_SN (As := [.int x1]) (rest := [.int r_3, .ref (g.2.2.1 k0)]) C (c_X9_firstOf l g (u, W) x1 h) wd_615 wd_616 wd_1 wd_617 hz_X9_firstOf rfl rfl ⟨by decide, by decide⟩ ⟨by decide, by decide⟩ rfl rfl (Nat.le_of_ble_eq_true rfl) dX1_holds_19) (fun r_5 M1 hq => ?_)
      obtain ⟨rfl, h⟩ := hq
      refine zm_iload_n C dX1_holds_22 rfl 1 rfl ?_
      refine zm_ci (zr_SN (As := [.int x1]) (rest := [.int r_5, .int r_3, .ref (g.2.2.1 k0)]) C (c_X9_secondOf l g (u, W) x1 h) wd_618 wd_619 wd_1 wd_620 hz_X9_secondOf rfl rfl ⟨by decide, by decide⟩ ⟨by decide, by decide⟩ rfl rfl (Nat.le_of_ble_eq_true rfl) dX1_holds_23) (fun r_7 M1 hq => ?_)
      obtain ⟨rfl, h⟩ := hq
      refine zm_ci (zr_V (As := [.int r_3, .int r_5, .int r_7]) (rest := []) C (c_X1_fits l g u W k0 hk0 r_3 r_5 r_7 h) wd_602 wd_603 wd_604 wd_3 wd_605 hy_X1_fits rfl rfl ⟨by decide, by decide⟩ ⟨by decide, by decide⟩ (ci := 1) (zkd_lt hk0 (by decide)) (zCell_k hk0) rfl rfl rfl rfl (Nat.le_of_ble_eq_true rfl) dX1_holds_26) (fun r_9 M1 hq => ?_)
      obtain ⟨rfl, h⟩ := hq
      obtain ⟨hg_11, h⟩ := h
      exact zm_zret (ty := .boolean) C hr hg_11 dX1_holds_29 ⟨rfl, h⟩
    · have h := h.2 hc_2
      refine zm_iconst (v := 0) C dX1_holds_11 (by decide) ?_
      exact zm_zret (ty := .boolean) C hr (by decide) dX1_holds_12 ⟨rfl, h⟩
abbrev rm_X9_numberOf : Room := { frames := 0, cells := 0, slots := 0, locals := 0 }
def w_X9_numberOf (x0 : Int32) (x1 : Int32) (x2 : Int32) (x3 : Int32) (Q : Int32 → Prop) : Prop := Q (((((162 : Int32) * x0) + ((18 : Int32) * x1)) + ((2 : Int32) * (x2 + (1 : Int32)))) + x3)
set_option maxHeartbeats 4000000 in
set_option maxRecDepth 100000 in
theorem c_X9_numberOf (l : Launch) (g : GE) (M : Mem) (x0 : Int32) (x1 : Int32) (x2 : Int32) (x3 : Int32) {Q : Int32 → Prop} (h : w_X9_numberOf x0 x1 x2 x3 Q) : Met l yX9_numberOf (.code yX9_numberOf cX9_numberOf 4 (Option.some Jvm.ClassFile.FieldType.int) :: TB) rm_X9_numberOf (zPc g M [.int x0, .int x1, .int x2, .int x3]) (zQi g (zP0 M Q)) 0 0 (zA g) := by
  unfold w_X9_numberOf at h
  refine zMet (own := RX9) [(0, .int x0), (1, .int x1), (2, .int x2), (3, .int x3)] (by decide +kernel) rfl (Nat.le_of_ble_eq_true rfl) rfl (fun p e s m args below meth c C hr => ?_)
  refine zm_sipush (v := 162) C dX9_numberOf_0 (by decide) ?_
  refine zm_iload_n C dX9_numberOf_3 rfl 0 rfl ?_
  refine zm_imul C dX9_numberOf_4 ?_
  refine zm_bipush (v := 18) C dX9_numberOf_5 (by decide) ?_
  refine zm_iload_n C dX9_numberOf_7 rfl 1 rfl ?_
  refine zm_imul C dX9_numberOf_8 ?_
  refine zm_iadd C dX9_numberOf_9 ?_
  refine zm_iconst (v := 2) C dX9_numberOf_10 (by decide) ?_
  refine zm_iload_n C dX9_numberOf_11 rfl 2 rfl ?_
  refine zm_iconst (v := 1) C dX9_numberOf_12 (by decide) ?_
  refine zm_iadd C dX9_numberOf_13 ?_
  refine zm_imul C dX9_numberOf_14 ?_
  refine zm_iadd C dX9_numberOf_15 ?_
  refine zm_iload_n C dX9_numberOf_16 rfl 3 rfl ?_
  refine zm_iadd C dX9_numberOf_17 ?_
  exact zm_iret C hr dX9_numberOf_18 ⟨rfl, h⟩
abbrev rm_X1_listPositions : Room := { frames := 2, cells := 0, slots := 0, locals := 44 }
def wb_X1_listPositions_81 (L4 : Int32 → Int32 → MU → Prop) (L15 : Int32 → Int32 → Int32 → MU → Prop) (L27 : Int32 → Int32 → Int32 → Int32 → MU → Prop) (k0 : Nat) (k1 : Nat) (Q : Int32 → MU → Prop) (x2 : Int32) (x3 : Int32) (x4 : Int32) (x5 : Int32) (u : MU) : Prop := ∀ x5_1, x5_1 = x5 + (1 : Int32) → L27 x2 x3 x4 x5_1 u
set_option maxHeartbeats 4000000 in
set_option maxRecDepth 100000 in
theorem vb_X1_listPositions_81 {p : Program} {l : Launch} {e : Env} {s : State} {m : MethodId} {args : Array Value} {below : List Frame} {meth : Method} {c : Code} {g : GE} {W : MU × ((Nat → Int64) × (Nat → UInt64))} {k0 : Nat} {k1 : Nat} {Q : Int32 → MU → Prop} (C : zCx p l s m args meth c g RX1 cX1_listPositions 6) (hr : meth.sig.returnType = (Option.some Jvm.ClassFile.FieldType.int)) (hk0 : zkd k0 = 3) (hk1 : zkd k1 = 5) {L4 : Int32 → Int32 → MU → Prop} {L15 : Int32 → Int32 → Int32 → MU → Prop} {L27 : Int32 → Int32 → Int32 → Int32 → MU → Prop} (hL4 : ∀ (x2 : Int32) (x3 : Int32) (u : MU), L4 x2 x3 u → WM p l e rm_X1_listPositions s m args below meth c g 6 0 0 (MQ below (zQi g (zPx W Q)) args s 0 0 (zA g)) 4 [(0, .ref (g.2.2.1 k0)), (1, .ref (g.2.2.1 k1)), (2, .int x2), (3, .int x3)] [] (u, W)) (hL15 : ∀ (x2 : Int32) (x3 : Int32) (x4 : Int32) (u : MU), L15 x2 x3 x4 u → WM p l e rm_X1_listPositions s m args below meth c g 6 0 0 (MQ below (zQi g (zPx W Q)) args s 0 0 (zA g)) 15 [(0, .ref (g.2.2.1 k0)), (1, .ref (g.2.2.1 k1)), (2, .int x2), (3, .int x3), (4, .int x4)] [] (u, W)) (hL27 : ∀ (x2 : Int32) (x3 : Int32) (x4 : Int32) (x5 : Int32) (u : MU), L27 x2 x3 x4 x5 u → WM p l e rm_X1_listPositions s m args below meth c g 6 0 0 (MQ below (zQi g (zPx W Q)) args s 0 0 (zA g)) 27 [(0, .ref (g.2.2.1 k0)), (1, .ref (g.2.2.1 k1)), (2, .int x2), (3, .int x3), (4, .int x4), (5, .int x5)] [] (u, W)) (x2 : Int32) (x3 : Int32) (x4 : Int32) (x5 : Int32) (u : MU) (h : wb_X1_listPositions_81 L4 L15 L27 k0 k1 Q x2 x3 x4 x5 u) : WM p l e rm_X1_listPositions s m args below meth c g 6 0 0 (MQ below (zQi g (zPx W Q)) args s 0 0 (zA g)) 81 [(0, .ref (g.2.2.1 k0)), (1, .ref (g.2.2.1 k1)), (2, .int x2), (3, .int x3), (4, .int x4), (5, .int x5)] [] (u, W) := by
  unfold wb_X1_listPositions_81 at h
  obtain ⟨x5_1, hx5_1⟩ : ∃ z, z = x5 + (1 : Int32) := ⟨_, rfl⟩
  have h := h x5_1 hx5_1
  refine zm_iinc (v := x5_1) (lv' := [(5, .int x5_1), (0, .ref (g.2.2.1 k0)), (1, .ref (g.2.2.1 k1)), (2, .int x2), (3, .int x3), (4, .int x4)]) C dX1_listPositions_81 5 rfl (by rw [hx5_1]; rfl) (by decide) rfl ?_
  refine zm_goto (tgt := 27) C dX1_listPositions_84 (by decide) ?_
  exact zm_sub [1, 2, 3, 4, 5, 0] rfl (hL27 _ _ _ _ _ h)
def wl_X1_listPositions_27 (L4 : Int32 → Int32 → MU → Prop) (L15 : Int32 → Int32 → Int32 → MU → Prop) (k0 : Nat) (k1 : Nat) (Q : Int32 → MU → Prop) : Nat → Int32 → Int32 → Int32 → Int32 → MU → Prop
  | 0, _, _, _, _, _ => False
  | n + 1, x2, x3, x4, x5, u => (((u k0 0) ≤ x5) → ∀ x4_2, x4_2 = x4 + (1 : Int32) → L15 x2 x3 x4_2 u) ∧ ((¬ (u k0 0) ≤ x5) → w_X1_fits k0 u x3 x4 x5 (fun r_3 => ((r_3 = 0) → wb_X1_listPositions_81 L4 L15 (fun x2' x3' x4' x5' u' => wl_X1_listPositions_27 L4 L15 k0 k1 Q n x2' x3' x4' x5' u') k0 k1 Q x2 x3 x4 x5 u) ∧ ((¬ r_3 = 0) → w_X9_numberOf x3 x4 x5 (0 : Int32) (fun r_6 => w_X9_put k1 x2 r_6 u (fun u_9 => w_X9_numberOf x3 x4 x5 (1 : Int32) (fun r_10 => w_X9_put k1 (x2 + (1 : Int32)) r_10 u_9 (fun u_13 => ∀ x2_14, x2_14 = x2 + (2 : Int32) → wb_X1_listPositions_81 L4 L15 (fun x2' x3' x4' x5' u' => wl_X1_listPositions_27 L4 L15 k0 k1 Q n x2' x3' x4' x5' u') k0 k1 Q x2_14 x3 x4 x5 u_13)))))))
set_option maxHeartbeats 4000000 in
set_option maxRecDepth 100000 in
theorem vl_X1_listPositions_27 {p : Program} {l : Launch} {e : Env} {s : State} {m : MethodId} {args : Array Value} {below : List Frame} {meth : Method} {c : Code} {g : GE} {W : MU × ((Nat → Int64) × (Nat → UInt64))} {k0 : Nat} {k1 : Nat} {Q : Int32 → MU → Prop} (C : zCx p l s m args meth c g RX1 cX1_listPositions 6) (hr : meth.sig.returnType = (Option.some Jvm.ClassFile.FieldType.int)) (hk0 : zkd k0 = 3) (hk1 : zkd k1 = 5) {L4 : Int32 → Int32 → MU → Prop} {L15 : Int32 → Int32 → Int32 → MU → Prop} (hL4 : ∀ (x2 : Int32) (x3 : Int32) (u : MU), L4 x2 x3 u → WM p l e rm_X1_listPositions s m args below meth c g 6 0 0 (MQ below (zQi g (zPx W Q)) args s 0 0 (zA g)) 4 [(0, .ref (g.2.2.1 k0)), (1, .ref (g.2.2.1 k1)), (2, .int x2), (3, .int x3)] [] (u, W)) (hL15 : ∀ (x2 : Int32) (x3 : Int32) (x4 : Int32) (u : MU), L15 x2 x3 x4 u → WM p l e rm_X1_listPositions s m args below meth c g 6 0 0 (MQ below (zQi g (zPx W Q)) args s 0 0 (zA g)) 15 [(0, .ref (g.2.2.1 k0)), (1, .ref (g.2.2.1 k1)), (2, .int x2), (3, .int x3), (4, .int x4)] [] (u, W)) : ∀ (n : Nat) (x2 : Int32) (x3 : Int32) (x4 : Int32) (x5 : Int32) (u : MU) , wl_X1_listPositions_27 L4 L15 k0 k1 Q n x2 x3 x4 x5 u → WM p l e rm_X1_listPositions s m args below meth c g 6 0 0 (MQ below (zQi g (zPx W Q)) args s 0 0 (zA g)) 27 [(0, .ref (g.2.2.1 k0)), (1, .ref (g.2.2.1 k1)), (2, .int x2), (3, .int x3), (4, .int x4), (5, .int x5)] [] (u, W) := by
  intro n
  induction n with
  | zero => intro _ _ _ _ _ h; exact h.elim
  | succ n ih =>
    intro x2 x3 x4 x5 u h
    unfold wl_X1_listPositions_27 at h
    refine zm_iload C dX1_listPositions_27 5 rfl ?_
    refine zm_aload_n C dX1_listPositions_29 rfl 0 rfl ?_
    refine gf_RX1_25 C hk0 dX1_listPositions_30 ?_
    refine zm_icmp_ge (tgt := 87) C dX1_listPositions_33 (by decide) (fun hc_1 => ?_) (fun hc_1 => ?_)
    · have h := h.1 hc_1
      obtain ⟨x4_2, hx4_2⟩ : ∃ z, z = x4 + (1 : Int32) := ⟨_, rfl⟩
      have h := h x4_2 hx4_2
      refine zm_iinc (v := x4_2) (lv' := [(4, .int x4_2), (0, .ref (g.2.2.1 k0)), (1, .ref (g.2.2.1 k1)), (2, .int x2), (3, .int x3), (5, .int x5)]) C dX1_listPositions_87 4 rfl (by rw [hx4_2]; rfl) (by decide) rfl ?_
      refine zm_goto (tgt := 15) C dX1_listPositions_90 (by decide) ?_
      exact zm_sub [1, 2, 3, 4, 0] rfl (hL15 _ _ _ _ h)
    · have h := h.2 hc_1
      refine zm_aload_n C dX1_listPositions_36 rfl 0 rfl ?_
      refine zm_iload_n C dX1_listPositions_37 rfl 3 rfl ?_
      refine zm_iload C dX1_listPositions_38 4 rfl ?_
      refine zm_iload C dX1_listPositions_40 5 rfl ?_
      refine zm_ci (zr_V (As := [.int x3, .int x4, .int x5]) (rest := []) C (c_X1_fits l g u W k0 hk0 x3 x4 x5 h) wd_602 wd_603 wd_604 wd_3 wd_605 hy_X1_fits rfl rfl ⟨by decide, by decide⟩ ⟨by decide, by decide⟩ (ci := 1) (zkd_lt hk0 (by decide)) (zCell_k hk0) rfl rfl rfl rfl (Nat.le_of_ble_eq_true rfl) dX1_listPositions_42) (fun r_3 M1 hq => ?_)
      obtain ⟨rfl, h⟩ := hq
      refine zm_if_eq (tgt := 81) C dX1_listPositions_45 (by decide) (fun hc_5 => ?_) (fun hc_5 => ?_)
      · have h := h.1 hc_5
        exact zm_sub [0, 1, 2, 3, 4, 5] rfl (vb_X1_listPositions_81 C hr hk0 hk1 hL4 hL15 ih _ _ _ _ _ h)
      · have h := h.2 hc_5
        refine zm_aload_n C dX1_listPositions_48 rfl 1 rfl ?_
        refine zm_iload_n C dX1_listPositions_49 rfl 2 rfl ?_
        refine zm_iload_n C dX1_listPositions_50 rfl 3 rfl ?_
        refine zm_iload C dX1_listPositions_51 4 rfl ?_
        refine zm_iload C dX1_listPositions_53 5 rfl ?_
        refine zm_iconst (v := 0) C dX1_listPositions_55 (by decide) ?_
        refine zm_ci (zr_SN (As := [.int x3, .int x4, .int x5, .int (0 : Int32)]) (rest := [.int x2, .ref (g.2.2.1 k1)]) C (c_X9_numberOf l g (u, W) x3 x4 x5 (0 : Int32) h) wd_607 wd_608 wd_1 wd_609 hz_X9_numberOf rfl rfl ⟨by decide, by decide⟩ ⟨by decide, by decide⟩ rfl rfl (Nat.le_of_ble_eq_true rfl) dX1_listPositions_56) (fun r_6 M1 hq => ?_)
        obtain ⟨rfl, h⟩ := hq
        refine zm_cv (zr_SN (As := [.ref (g.2.2.1 k1), .int x2, .int r_6]) (rest := []) C (c_X9_put l g u W k1 hk1 x2 r_6 h) wd_479 wd_480 wd_1 wd_481 hz_X9_put rfl rfl ⟨by decide, by decide⟩ ⟨by decide, by decide⟩ rfl rfl (Nat.le_of_ble_eq_true rfl) dX1_listPositions_59) (fun M1 hq => ?_)
        obtain ⟨u_9, rfl, h⟩ := hq
        refine zm_aload_n C dX1_listPositions_62 rfl 1 rfl ?_
        refine zm_iload_n C dX1_listPositions_63 rfl 2 rfl ?_
        refine zm_iconst (v := 1) C dX1_listPositions_64 (by decide) ?_
        refine zm_iadd C dX1_listPositions_65 ?_
        refine zm_iload_n C dX1_listPositions_66 rfl 3 rfl ?_
        refine zm_iload C dX1_listPositions_67 4 rfl ?_
        refine zm_iload C dX1_listPositions_69 5 rfl ?_
        refine zm_iconst (v := 1) C dX1_listPositions_71 (by decide) ?_
        refine zm_ci (zr_SN (As := [.int x3, .int x4, .int x5, .int (1 : Int32)]) (rest := [.int (x2 + (1 : Int32)), .ref (g.2.2.1 k1)]) C (c_X9_numberOf l g (u_9, W) x3 x4 x5 (1 : Int32) h) wd_607 wd_608 wd_1 wd_609 hz_X9_numberOf rfl rfl ⟨by decide, by decide⟩ ⟨by decide, by decide⟩ rfl rfl (Nat.le_of_ble_eq_true rfl) dX1_listPositions_72) (fun r_10 M1 hq => ?_)
        obtain ⟨rfl, h⟩ := hq
        refine zm_cv (zr_SN (As := [.ref (g.2.2.1 k1), .int (x2 + (1 : Int32)), .int r_10]) (rest := []) C (c_X9_put l g u_9 W k1 hk1 (x2 + (1 : Int32)) r_10 h) wd_479 wd_480 wd_1 wd_481 hz_X9_put rfl rfl ⟨by decide, by decide⟩ ⟨by decide, by decide⟩ rfl rfl (Nat.le_of_ble_eq_true rfl) dX1_listPositions_75) (fun M1 hq => ?_)
        obtain ⟨u_13, rfl, h⟩ := hq
        obtain ⟨x2_14, hx2_14⟩ : ∃ z, z = x2 + (2 : Int32) := ⟨_, rfl⟩
        have h := h x2_14 hx2_14
        refine zm_iinc (v := x2_14) (lv' := [(2, .int x2_14), (0, .ref (g.2.2.1 k0)), (1, .ref (g.2.2.1 k1)), (3, .int x3), (4, .int x4), (5, .int x5)]) C dX1_listPositions_78 2 rfl (by rw [hx2_14]; rfl) (by decide) rfl ?_
        exact zm_sub [1, 2, 0, 3, 4, 5] rfl (vb_X1_listPositions_81 C hr hk0 hk1 hL4 hL15 ih _ _ _ _ _ h)
def wl_X1_listPositions_15 (L4 : Int32 → Int32 → MU → Prop) (k0 : Nat) (k1 : Nat) (Q : Int32 → MU → Prop) : Nat → Int32 → Int32 → Int32 → MU → Prop
  | 0, _, _, _, _ => False
  | n + 1, x2, x3, x4, u => (((u k0 0) ≤ x4) → ∀ x3_2, x3_2 = x3 + (1 : Int32) → L4 x2 x3_2 u) ∧ ((¬ (u k0 0) ≤ x4) → ∃ nn, wl_X1_listPositions_27 L4 (fun x2' x3' x4' u' => wl_X1_listPositions_15 L4 k0 k1 Q n x2' x3' x4' u') k0 k1 Q nn x2 x3 x4 (-1 : Int32) u)
set_option maxHeartbeats 4000000 in
set_option maxRecDepth 100000 in
theorem vl_X1_listPositions_15 {p : Program} {l : Launch} {e : Env} {s : State} {m : MethodId} {args : Array Value} {below : List Frame} {meth : Method} {c : Code} {g : GE} {W : MU × ((Nat → Int64) × (Nat → UInt64))} {k0 : Nat} {k1 : Nat} {Q : Int32 → MU → Prop} (C : zCx p l s m args meth c g RX1 cX1_listPositions 6) (hr : meth.sig.returnType = (Option.some Jvm.ClassFile.FieldType.int)) (hk0 : zkd k0 = 3) (hk1 : zkd k1 = 5) {L4 : Int32 → Int32 → MU → Prop} (hL4 : ∀ (x2 : Int32) (x3 : Int32) (u : MU), L4 x2 x3 u → WM p l e rm_X1_listPositions s m args below meth c g 6 0 0 (MQ below (zQi g (zPx W Q)) args s 0 0 (zA g)) 4 [(0, .ref (g.2.2.1 k0)), (1, .ref (g.2.2.1 k1)), (2, .int x2), (3, .int x3)] [] (u, W)) : ∀ (n : Nat) (x2 : Int32) (x3 : Int32) (x4 : Int32) (u : MU) , wl_X1_listPositions_15 L4 k0 k1 Q n x2 x3 x4 u → WM p l e rm_X1_listPositions s m args below meth c g 6 0 0 (MQ below (zQi g (zPx W Q)) args s 0 0 (zA g)) 15 [(0, .ref (g.2.2.1 k0)), (1, .ref (g.2.2.1 k1)), (2, .int x2), (3, .int x3), (4, .int x4)] [] (u, W) := by
  intro n
  induction n with
  | zero => intro _ _ _ _ h; exact h.elim
  | succ n ih =>
    intro x2 x3 x4 u h
    unfold wl_X1_listPositions_15 at h
    refine zm_iload C dX1_listPositions_15 4 rfl ?_
    refine zm_aload_n C dX1_listPositions_17 rfl 0 rfl ?_
    refine gf_RX1_25 C hk0 dX1_listPositions_18 ?_
    refine zm_icmp_ge (tgt := 93) C dX1_listPositions_21 (by decide) (fun hc_1 => ?_) (fun hc_1 => ?_)
    · have h := h.1 hc_1
      obtain ⟨x3_2, hx3_2⟩ : ∃ z, z = x3 + (1 : Int32) := ⟨_, rfl⟩
      have h := h x3_2 hx3_2
      refine zm_iinc (v := x3_2) (lv' := [(3, .int x3_2), (0, .ref (g.2.2.1 k0)), (1, .ref (g.2.2.1 k1)), (2, .int x2), (4, .int x4)]) C dX1_listPositions_93 3 rfl (by rw [hx3_2]; rfl) (by decide) rfl ?_
      refine zm_goto (tgt := 4) C dX1_listPositions_96 (by decide) ?_
      exact zm_sub [1, 2, 3, 0] rfl (hL4 _ _ _ h)
    · have h := h.2 hc_1
      refine zm_iconst (v := -1) C dX1_listPositions_24 (by decide) ?_
      refine zm_istore (lv' := [(5, .int (-1 : Int32)), (0, .ref (g.2.2.1 k0)), (1, .ref (g.2.2.1 k1)), (2, .int x2), (3, .int x3), (4, .int x4)]) C dX1_listPositions_25 (by decide) rfl ?_
      obtain ⟨nn, h⟩ := h
      exact zm_sub [1, 2, 3, 4, 5, 0] rfl (vl_X1_listPositions_27 C hr hk0 hk1 hL4 ih nn _ _ _ _ _ h)
def wl_X1_listPositions_4 (k0 : Nat) (k1 : Nat) (Q : Int32 → MU → Prop) : Nat → Int32 → Int32 → MU → Prop
  | 0, _, _, _ => False
  | n + 1, x2, x3, u => (((u k0 0) ≤ x3) → Q x2 u) ∧ ((¬ (u k0 0) ≤ x3) → ∃ nn, wl_X1_listPositions_15 (fun x2' x3' u' => wl_X1_listPositions_4 k0 k1 Q n x2' x3' u') k0 k1 Q nn x2 x3 (0 : Int32) u)
set_option maxHeartbeats 4000000 in
set_option maxRecDepth 100000 in
theorem vl_X1_listPositions_4 {p : Program} {l : Launch} {e : Env} {s : State} {m : MethodId} {args : Array Value} {below : List Frame} {meth : Method} {c : Code} {g : GE} {W : MU × ((Nat → Int64) × (Nat → UInt64))} {k0 : Nat} {k1 : Nat} {Q : Int32 → MU → Prop} (C : zCx p l s m args meth c g RX1 cX1_listPositions 6) (hr : meth.sig.returnType = (Option.some Jvm.ClassFile.FieldType.int)) (hk0 : zkd k0 = 3) (hk1 : zkd k1 = 5) : ∀ (n : Nat) (x2 : Int32) (x3 : Int32) (u : MU) , wl_X1_listPositions_4  k0 k1 Q n x2 x3 u → WM p l e rm_X1_listPositions s m args below meth c g 6 0 0 (MQ below (zQi g (zPx W Q)) args s 0 0 (zA g)) 4 [(0, .ref (g.2.2.1 k0)), (1, .ref (g.2.2.1 k1)), (2, .int x2), (3, .int x3)] [] (u, W) := by
  intro n
  induction n with
  | zero => intro _ _ _ h; exact h.elim
  | succ n ih =>
    intro x2 x3 u h
    unfold wl_X1_listPositions_4 at h
    refine zm_iload_n C dX1_listPositions_4 rfl 3 rfl ?_
    refine zm_aload_n C dX1_listPositions_5 rfl 0 rfl ?_
    refine gf_RX1_25 C hk0 dX1_listPositions_6 ?_
    refine zm_icmp_ge (tgt := 99) C dX1_listPositions_9 (by decide) (fun hc_1 => ?_) (fun hc_1 => ?_)
    · have h := h.1 hc_1
      refine zm_iload_n C dX1_listPositions_99 rfl 2 rfl ?_
      exact zm_iret C hr dX1_listPositions_100 ⟨_, rfl, h⟩
    · have h := h.2 hc_1
      refine zm_iconst (v := 0) C dX1_listPositions_12 (by decide) ?_
      refine zm_istore (lv' := [(4, .int (0 : Int32)), (0, .ref (g.2.2.1 k0)), (1, .ref (g.2.2.1 k1)), (2, .int x2), (3, .int x3)]) C dX1_listPositions_13 (by decide) rfl ?_
      obtain ⟨nn, h⟩ := h
      exact zm_sub [1, 2, 3, 4, 0] rfl (vl_X1_listPositions_15 C hr hk0 hk1 ih nn _ _ _ _ h)
def w_X1_listPositions (k0 : Nat) (k1 : Nat) (u : MU) (Q : Int32 → MU → Prop) : Prop := ∃ nn, wl_X1_listPositions_4  k0 k1 Q nn (0 : Int32) (0 : Int32) u
set_option maxHeartbeats 4000000 in
set_option maxRecDepth 100000 in
theorem c_X1_listPositions (l : Launch) (g : GE) (u : MU) (W : MU × ((Nat → Int64) × (Nat → UInt64))) (k0 : Nat) (k1 : Nat) (hk0 : zkd k0 = 3) (hk1 : zkd k1 = 5) {Q : Int32 → MU → Prop} (h : w_X1_listPositions k0 k1 u Q) : Met l yX1_listPositions (.code yX1_listPositions cX1_listPositions 6 (Option.some Jvm.ClassFile.FieldType.int) :: TB) rm_X1_listPositions (zPc g (u, W) [.ref (g.2.2.1 k0), .ref (g.2.2.1 k1)]) (zQi g (zPx W Q)) 0 0 (zA g) := by
  unfold w_X1_listPositions at h
  refine zMet (own := RX1) [(0, .ref (g.2.2.1 k0)), (1, .ref (g.2.2.1 k1))] (by decide +kernel) rfl (Nat.le_of_ble_eq_true rfl) rfl (fun p e s m args below meth c C hr => ?_)
  refine zm_iconst (v := 0) C dX1_listPositions_0 (by decide) ?_
  refine zm_istore_n (lv' := [(2, .int (0 : Int32)), (0, .ref (g.2.2.1 k0)), (1, .ref (g.2.2.1 k1))]) C dX1_listPositions_1 rfl (by decide) rfl ?_
  refine zm_iconst (v := 0) C dX1_listPositions_2 (by decide) ?_
  refine zm_istore_n (lv' := [(3, .int (0 : Int32)), (2, .int (0 : Int32)), (0, .ref (g.2.2.1 k0)), (1, .ref (g.2.2.1 k1))]) C dX1_listPositions_3 rfl (by decide) rfl ?_
  obtain ⟨nn, h⟩ := h
  exact zm_sub [2, 3, 1, 0] rfl (vl_X1_listPositions_4 C hr hk0 hk1  nn _ _ _ h)
abbrev rm_X1_taken : Room := { frames := 1, cells := 0, slots := 0, locals := 20 }
def w_X1_taken (k0 : Nat) (u : MU) (x1 : Int32) (Q : Int32 → Prop) : Prop := w_X9_foxOf x1 (fun r_1 => w_X9_bitOf r_1 (fun r_3 => w_X9_firstOf x1 (fun r_5 => w_X9_bitOf r_5 (fun r_7 => w_X9_secondOf x1 (fun r_9 => w_X9_bitOf r_9 (fun r_11 => Q ((r_3 ||| r_7) ||| r_11)))))))
set_option maxHeartbeats 4000000 in
set_option maxRecDepth 100000 in
theorem c_X1_taken (l : Launch) (g : GE) (u : MU) (W : MU × ((Nat → Int64) × (Nat → UInt64))) (k0 : Nat) (hk0 : zkd k0 = 3) (x1 : Int32) {Q : Int32 → Prop} (h : w_X1_taken k0 u x1 Q) : Met l yX1_taken (.code yX1_taken cX1_taken 2 (Option.some Jvm.ClassFile.FieldType.int) :: TB) rm_X1_taken (zPc g (u, W) [.ref (g.2.2.1 k0), .int x1]) (zQi g (zP0 (u, W) Q)) 0 0 (zA g) := by
  unfold w_X1_taken at h
  refine zMet (own := RX1) [(0, .ref (g.2.2.1 k0)), (1, .int x1)] (by decide +kernel) rfl (Nat.le_of_ble_eq_true rfl) rfl (fun p e s m args below meth c C hr => ?_)
  refine zm_iload_n C dX1_taken_0 rfl 1 rfl ?_
  refine zm_ci (zr_SN (As := [.int x1]) (rest := []) C (c_X9_foxOf l g (u, W) x1 h) wd_625 wd_626 wd_1 wd_627 hz_X9_foxOf rfl rfl ⟨by decide, by decide⟩ ⟨by decide, by decide⟩ rfl rfl (Nat.le_of_ble_eq_true rfl) dX1_taken_1) (fun r_1 M1 hq => ?_)
  obtain ⟨rfl, h⟩ := hq
  refine zm_ci (zr_SN (As := [.int r_1]) (rest := []) C (c_X9_bitOf l g (u, W) r_1 h) wd_486 wd_487 wd_1 wd_488 hz_X9_bitOf rfl rfl ⟨by decide, by decide⟩ ⟨by decide, by decide⟩ rfl rfl (Nat.le_of_ble_eq_true rfl) dX1_taken_4) (fun r_3 M1 hq => ?_)
  obtain ⟨rfl, h⟩ := hq
  refine zm_iload_n C dX1_taken_7 rfl 1 rfl ?_
  refine zm_ci (zr_SN (As := [.int x1]) (rest := [.int r_3]) C (c_X9_firstOf l g (u, W) x1 h) wd_615 wd_616 wd_1 wd_617 hz_X9_firstOf rfl rfl ⟨by decide, by decide⟩ ⟨by decide, by decide⟩ rfl rfl (Nat.le_of_ble_eq_true rfl) dX1_taken_8) (fun r_5 M1 hq => ?_)
  obtain ⟨rfl, h⟩ := hq
  refine zm_ci (zr_SN (As := [.int r_5]) (rest := [.int r_3]) C (c_X9_bitOf l g (u, W) r_5 h) wd_486 wd_487 wd_1 wd_488 hz_X9_bitOf rfl rfl ⟨by decide, by decide⟩ ⟨by decide, by decide⟩ rfl rfl (Nat.le_of_ble_eq_true rfl) dX1_taken_11) (fun r_7 M1 hq => ?_)
  obtain ⟨rfl, h⟩ := hq
  refine zm_ior C dX1_taken_14 ?_
  refine zm_iload_n C dX1_taken_15 rfl 1 rfl ?_
  refine zm_ci (zr_SN (As := [.int x1]) (rest := [.int (r_3 ||| r_7)]) C (c_X9_secondOf l g (u, W) x1 h) wd_618 wd_619 wd_1 wd_620 hz_X9_secondOf rfl rfl ⟨by decide, by decide⟩ ⟨by decide, by decide⟩ rfl rfl (Nat.le_of_ble_eq_true rfl) dX1_taken_16) (fun r_9 M1 hq => ?_)
  obtain ⟨rfl, h⟩ := hq
  refine zm_ci (zr_SN (As := [.int r_9]) (rest := [.int (r_3 ||| r_7)]) C (c_X9_bitOf l g (u, W) r_9 h) wd_486 wd_487 wd_1 wd_488 hz_X9_bitOf rfl rfl ⟨by decide, by decide⟩ ⟨by decide, by decide⟩ rfl rfl (Nat.le_of_ble_eq_true rfl) dX1_taken_19) (fun r_11 M1 hq => ?_)
  obtain ⟨rfl, h⟩ := hq
  refine zm_ior C dX1_taken_22 ?_
  exact zm_iret C hr dX1_taken_23 ⟨rfl, h⟩
abbrev rm_X9_turnOf : Room := { frames := 0, cells := 0, slots := 0, locals := 0 }
def w_X9_turnOf (x0 : Int32) (Q : Int32 → Prop) : Prop := Q (x0 - x0 / (2 : Int32) * (2 : Int32))
set_option maxHeartbeats 4000000 in
set_option maxRecDepth 100000 in
theorem c_X9_turnOf (l : Launch) (g : GE) (M : Mem) (x0 : Int32) {Q : Int32 → Prop} (h : w_X9_turnOf x0 Q) : Met l yX9_turnOf (.code yX9_turnOf cX9_turnOf 1 (Option.some Jvm.ClassFile.FieldType.int) :: TB) rm_X9_turnOf (zPc g M [.int x0]) (zQi g (zP0 M Q)) 0 0 (zA g) := by
  unfold w_X9_turnOf at h
  refine zMet (own := RX9) [(0, .int x0)] (by decide +kernel) rfl (Nat.le_of_ble_eq_true rfl) rfl (fun p e s m args below meth c C hr => ?_)
  refine zm_iload_n C dX9_turnOf_0 rfl 0 rfl ?_
  refine zm_iconst (v := 2) C dX9_turnOf_1 (by decide) ?_
  refine zm_irem C dX9_turnOf_2 (by decide) ?_
  exact zm_iret C hr dX9_turnOf_3 ⟨rfl, h⟩
abbrev rm_X1_moves : Room := { frames := 0, cells := 0, slots := 0, locals := 0 }
def wb_X1_moves_13 (k0 : Nat) (u : MU) (Q : Int64 → Prop) : Prop := Q (0 : Int64)
set_option maxHeartbeats 4000000 in
set_option maxRecDepth 100000 in
theorem vb_X1_moves_13 {p : Program} {l : Launch} {e : Env} {s : State} {m : MethodId} {args : Array Value} {below : List Frame} {meth : Method} {c : Code} {g : GE} {W : MU × ((Nat → Int64) × (Nat → UInt64))} {u : MU} {k0 : Nat} {Q : Int64 → Prop} (C : zCx p l s m args meth c g RX1 cX1_moves 3) (hr : meth.sig.returnType = (Option.some Jvm.ClassFile.FieldType.long)) (hk0 : zkd k0 = 3) (h : wb_X1_moves_13  k0 u Q ) : WM p l e rm_X1_moves s m args below meth c g 3 0 0 (MQ below (zQl g (zP0 (u, W) Q)) args s 0 0 (zA g)) 13 [] [] (u, W) := by
  unfold wb_X1_moves_13 at h
  refine zm_lconst (v := 0) C dX1_moves_13 (by decide) ?_
  exact zm_lret C hr dX1_moves_14 ⟨rfl, h⟩
def w_X1_moves (k0 : Nat) (u : MU) (x1 : Int32) (x2 : Int32) (Q : Int64 → Prop) : Prop := ((x1 < 0) → wb_X1_moves_13  k0 u Q ) ∧ ((¬ x1 < 0) → ((x1 < (Int32.ofNat 8)) → vp_in x1 8 ∧ (Q (((u (k0 + 3) (x1).toNatClampNeg) &&& x2).toInt64 <<< (((8 : Int32) * x1).toInt64 &&& 63)))) ∧ ((¬ x1 < (Int32.ofNat 8)) → wb_X1_moves_13  k0 u Q ))
set_option maxHeartbeats 4000000 in
set_option maxRecDepth 100000 in
theorem c_X1_moves (l : Launch) (g : GE) (u : MU) (W : MU × ((Nat → Int64) × (Nat → UInt64))) (k0 : Nat) (hk0 : zkd k0 = 3) (x1 : Int32) (x2 : Int32) {Q : Int64 → Prop} (h : w_X1_moves k0 u x1 x2 Q) : Met l yX1_moves (.code yX1_moves cX1_moves 3 (Option.some Jvm.ClassFile.FieldType.long) :: TB) rm_X1_moves (zPc g (u, W) [.ref (g.2.2.1 k0), .int x1, .int x2]) (zQl g (zP0 (u, W) Q)) 0 0 (zA g) := by
  unfold w_X1_moves at h
  refine zMet (own := RX1) [(0, .ref (g.2.2.1 k0)), (1, .int x1), (2, .int x2)] (by decide +kernel) rfl (Nat.le_of_ble_eq_true rfl) rfl (fun p e s m args below meth c C hr => ?_)
  refine zm_iload_n C dX1_moves_0 rfl 1 rfl ?_
  refine zm_if_lt (tgt := 13) C dX1_moves_1 (by decide) (fun hc_1 => ?_) (fun hc_1 => ?_)
  · have h := h.1 hc_1
    exact zm_sub [] rfl (vb_X1_moves_13 C hr hk0   h)
  · have h := h.2 hc_1
    refine zm_iload_n C dX1_moves_4 rfl 1 rfl ?_
    refine zm_aload_n C dX1_moves_5 rfl 0 rfl ?_
    refine gf_RX1_22 (k1 := (k0 + 3)) C hk0 rfl dX1_moves_6 ?_
    refine zm_len_x C (zk3_3 hk0) (zl3_3 hk0) dX1_moves_9 ?_
    refine zm_icmp_lt (tgt := 15) C dX1_moves_10 (by decide) (fun hc_2 => ?_) (fun hc_2 => ?_)
    · have h := h.1 hc_2
      refine zm_aload_n C dX1_moves_15 rfl 0 rfl ?_
      refine gf_RX1_22 (k1 := (k0 + 3)) C hk0 rfl dX1_moves_16 ?_
      refine zm_iload_n C dX1_moves_19 rfl 1 rfl ?_
      obtain ⟨hg_3, h⟩ := h
      refine zq_ld_x C (zk3_3 hk0) (zl3_3 hk0) hg_3 dX1_moves_20 ?_
      refine zm_iload_n C dX1_moves_21 rfl 2 rfl ?_
      refine zm_iand C dX1_moves_22 ?_
      refine zm_i2l C dX1_moves_23 ?_
      refine zm_bipush (v := 8) C dX1_moves_24 (by decide) ?_
      refine zm_iload_n C dX1_moves_26 rfl 1 rfl ?_
      refine zm_imul C dX1_moves_27 ?_
      refine zm_lshl C dX1_moves_28 ?_
      exact zm_lret C hr dX1_moves_29 ⟨rfl, h⟩
    · have h := h.2 hc_2
      exact zm_sub [] rfl (vb_X1_moves_13 C hr hk0   h)
abbrev rm_X9_above : Room := { frames := 0, cells := 0, slots := 0, locals := 0 }
def w_X9_above (x0 : Int32) (Q : Int32 → Prop) : Prop := Q ((-2 : Int32) <<< (x0 &&& 31))
set_option maxHeartbeats 4000000 in
set_option maxRecDepth 100000 in
theorem c_X9_above (l : Launch) (g : GE) (M : Mem) (x0 : Int32) {Q : Int32 → Prop} (h : w_X9_above x0 Q) : Met l yX9_above (.code yX9_above cX9_above 1 (Option.some Jvm.ClassFile.FieldType.int) :: TB) rm_X9_above (zPc g M [.int x0]) (zQi g (zP0 M Q)) 0 0 (zA g) := by
  unfold w_X9_above at h
  refine zMet (own := RX9) [(0, .int x0)] (by decide +kernel) rfl (Nat.le_of_ble_eq_true rfl) rfl (fun p e s m args below meth c C hr => ?_)
  refine zm_bipush (v := -2) C dX9_above_0 (by decide) ?_
  refine zm_iload_n C dX9_above_2 rfl 0 rfl ?_
  refine zm_ishl C dX9_above_3 ?_
  exact zm_iret C hr dX9_above_4 ⟨rfl, h⟩
abbrev rm_X1_movesOf : Room := { frames := 2, cells := 0, slots := 0, locals := 41 }
def w_X1_movesOf (k0 : Nat) (u : MU) (x1 : Int32) (Q : Int64 → Prop) : Prop := w_X9_firstOf x1 (fun r_1 => w_X9_secondOf x1 (fun r_3 => w_X1_taken k0 u x1 (fun r_5 => ∀ x4_7, x4_7 = ((r_5 ||| (u k0 2)) ^^^ (-1 : Int32)) → w_X9_turnOf x1 (fun r_8 => ((¬ r_8 = 0) → w_X9_above r_1 (fun r_11 => w_X1_moves k0 u r_1 (x4_7 &&& r_11) (fun r_13 => w_X9_above r_3 (fun r_15 => w_X1_moves k0 u r_3 (x4_7 &&& r_15) (fun r_17 => Q (r_13 ||| r_17)))))) ∧ ((r_8 = 0) → w_X9_foxOf x1 (fun r_19 => w_X1_moves k0 u r_19 x4_7 (fun r_21 => Q r_21)))))))
set_option maxHeartbeats 4000000 in
set_option maxRecDepth 100000 in
theorem c_X1_movesOf (l : Launch) (g : GE) (u : MU) (W : MU × ((Nat → Int64) × (Nat → UInt64))) (k0 : Nat) (hk0 : zkd k0 = 3) (x1 : Int32) {Q : Int64 → Prop} (h : w_X1_movesOf k0 u x1 Q) : Met l yX1_movesOf (.code yX1_movesOf cX1_movesOf 5 (Option.some Jvm.ClassFile.FieldType.long) :: TB) rm_X1_movesOf (zPc g (u, W) [.ref (g.2.2.1 k0), .int x1]) (zQl g (zP0 (u, W) Q)) 0 0 (zA g) := by
  unfold w_X1_movesOf at h
  refine zMet (own := RX1) [(0, .ref (g.2.2.1 k0)), (1, .int x1)] (by decide +kernel) rfl (Nat.le_of_ble_eq_true rfl) rfl (fun p e s m args below meth c C hr => ?_)
  refine zm_iload_n C dX1_movesOf_0 rfl 1 rfl ?_
  refine zm_ci (zr_SN (As := [.int x1]) (rest := []) C (c_X9_firstOf l g (u, W) x1 h) wd_615 wd_616 wd_1 wd_617 hz_X9_firstOf rfl rfl ⟨by decide, by decide⟩ ⟨by decide, by decide⟩ rfl rfl (Nat.le_of_ble_eq_true rfl) dX1_movesOf_1) (fun r_1 M1 hq => ?_)
  obtain ⟨rfl, h⟩ := hq
  refine zm_istore_n (lv' := [(2, .int r_1), (0, .ref (g.2.2.1 k0)), (1, .int x1)]) C dX1_movesOf_4 rfl (by decide) rfl ?_
  refine zm_iload_n C dX1_movesOf_5 rfl 2 rfl ?_
  refine zm_ci (zr_SN (As := [.int x1]) (rest := []) C (c_X9_secondOf l g (u, W) x1 h) wd_618 wd_619 wd_1 wd_620 hz_X9_secondOf rfl rfl ⟨by decide, by decide⟩ ⟨by decide, by decide⟩ rfl rfl (Nat.le_of_ble_eq_true rfl) dX1_movesOf_6) (fun r_3 M1 hq => ?_)
  obtain ⟨rfl, h⟩ := hq
  refine zm_istore_n (lv' := [(3, .int r_3), (2, .int r_1), (0, .ref (g.2.2.1 k0)), (1, .int x1)]) C dX1_movesOf_9 rfl (by decide) rfl ?_
  refine zm_aload_n C dX1_movesOf_10 rfl 2 rfl ?_
  refine zm_iload_n C dX1_movesOf_11 rfl 3 rfl ?_
  refine zm_ci (zr_V (As := [.int x1]) (rest := []) C (c_X1_taken l g u W k0 hk0 x1 h) wd_621 wd_623 wp_13 wd_3 wd_624 hy_X1_taken rfl rfl ⟨by decide, by decide⟩ ⟨by decide, by decide⟩ (ci := 1) (zkd_lt hk0 (by decide)) (zCell_k hk0) rfl rfl rfl rfl (Nat.le_of_ble_eq_true rfl) dX1_movesOf_12) (fun r_5 M1 hq => ?_)
  obtain ⟨rfl, h⟩ := hq
  refine zm_aload_n C dX1_movesOf_15 rfl 2 rfl ?_
  refine gf_RX1_31 C hk0 dX1_movesOf_16 ?_
  refine zm_ior C dX1_movesOf_19 ?_
  refine zm_iconst (v := -1) C dX1_movesOf_20 (by decide) ?_
  refine zm_ixor C dX1_movesOf_21 ?_
  refine zm_nmI (fun x4_7 hx4_7 => ?_)
  have h := h x4_7 hx4_7
  refine zm_istore (lv' := [(4, .int x4_7), (3, .int r_3), (2, .int r_1), (0, .ref (g.2.2.1 k0)), (1, .int x1)]) C dX1_movesOf_22 (by decide) rfl ?_
  refine zm_iload_n C dX1_movesOf_24 rfl 4 rfl ?_
  refine zm_ci (zr_SN (As := [.int x1]) (rest := []) C (c_X9_turnOf l g (u, W) x1 h) wd_628 wd_629 wd_1 wd_630 hz_X9_turnOf rfl rfl ⟨by decide, by decide⟩ ⟨by decide, by decide⟩ rfl rfl (Nat.le_of_ble_eq_true rfl) dX1_movesOf_25) (fun r_8 M1 hq => ?_)
  obtain ⟨rfl, h⟩ := hq
  refine zm_if_ne (tgt := 42) C dX1_movesOf_28 (by decide) (fun hc_10 => ?_) (fun hc_10 => ?_)
  · have h := h.1 hc_10
    refine zm_aload_n C dX1_movesOf_42 rfl 3 rfl ?_
    refine zm_iload_n C dX1_movesOf_43 rfl 2 rfl ?_
    refine zm_iload C dX1_movesOf_44 0 rfl ?_
    refine zm_iload_n C dX1_movesOf_46 rfl 2 rfl ?_
    refine zm_ci (zr_SN (As := [.int r_1]) (rest := [.int x4_7, .int r_1, .ref (g.2.2.1 k0)]) C (c_X9_above l g (u, W) r_1 h) wd_635 wd_584 wd_1 wd_585 hz_X9_above rfl rfl ⟨by decide, by decide⟩ ⟨by decide, by decide⟩ rfl rfl (Nat.le_of_ble_eq_true rfl) dX1_movesOf_47) (fun r_11 M1 hq => ?_)
    obtain ⟨rfl, h⟩ := hq
    refine zm_iand C dX1_movesOf_50 ?_
    refine zm_cl (zr_V (As := [.int r_1, .int (x4_7 &&& r_11)]) (rest := []) C (c_X1_moves l g u W k0 hk0 r_1 (x4_7 &&& r_11) h) wd_631 wd_633 wp_14 wd_3 wd_634 hy_X1_moves rfl rfl ⟨by decide, by decide⟩ ⟨by decide, by decide⟩ (ci := 1) (zkd_lt hk0 (by decide)) (zCell_k hk0) rfl rfl rfl rfl (Nat.le_of_ble_eq_true rfl) dX1_movesOf_51) (fun r_13 M1 hq => ?_)
    obtain ⟨rfl, h⟩ := hq
    refine zm_aload_n C dX1_movesOf_54 rfl 3 rfl ?_
    refine zm_iload_n C dX1_movesOf_55 rfl 1 rfl ?_
    refine zm_iload C dX1_movesOf_56 0 rfl ?_
    refine zm_iload_n C dX1_movesOf_58 rfl 1 rfl ?_
    refine zm_ci (zr_SN (As := [.int r_3]) (rest := [.int x4_7, .int r_3, .ref (g.2.2.1 k0), .long r_13]) C (c_X9_above l g (u, W) r_3 h) wd_635 wd_584 wd_1 wd_585 hz_X9_above rfl rfl ⟨by decide, by decide⟩ ⟨by decide, by decide⟩ rfl rfl (Nat.le_of_ble_eq_true rfl) dX1_movesOf_59) (fun r_15 M1 hq => ?_)
    obtain ⟨rfl, h⟩ := hq
    refine zm_iand C dX1_movesOf_62 ?_
    refine zm_cl (zr_V (As := [.int r_3, .int (x4_7 &&& r_15)]) (rest := [.long r_13]) C (c_X1_moves l g u W k0 hk0 r_3 (x4_7 &&& r_15) h) wd_631 wd_633 wp_14 wd_3 wd_634 hy_X1_moves rfl rfl ⟨by decide, by decide⟩ ⟨by decide, by decide⟩ (ci := 1) (zkd_lt hk0 (by decide)) (zCell_k hk0) rfl rfl rfl rfl (Nat.le_of_ble_eq_true rfl) dX1_movesOf_63) (fun r_17 M1 hq => ?_)
    obtain ⟨rfl, h⟩ := hq
    refine zm_lor C dX1_movesOf_66 ?_
    exact zm_lret C hr dX1_movesOf_67 ⟨rfl, h⟩
  · have h := h.2 hc_10
    refine zm_aload_n C dX1_movesOf_31 rfl 3 rfl ?_
    refine zm_iload_n C dX1_movesOf_32 rfl 4 rfl ?_
    refine zm_ci (zr_SN (As := [.int x1]) (rest := [.ref (g.2.2.1 k0)]) C (c_X9_foxOf l g (u, W) x1 h) wd_625 wd_626 wd_1 wd_627 hz_X9_foxOf rfl rfl ⟨by decide, by decide⟩ ⟨by decide, by decide⟩ rfl rfl (Nat.le_of_ble_eq_true rfl) dX1_movesOf_33) (fun r_19 M1 hq => ?_)
    obtain ⟨rfl, h⟩ := hq
    refine zm_iload C dX1_movesOf_36 0 rfl ?_
    refine zm_cl (zr_V (As := [.int r_19, .int x4_7]) (rest := []) C (c_X1_moves l g u W k0 hk0 r_19 x4_7 h) wd_631 wd_633 wp_14 wd_3 wd_634 hy_X1_moves rfl rfl ⟨by decide, by decide⟩ ⟨by decide, by decide⟩ (ci := 1) (zkd_lt hk0 (by decide)) (zCell_k hk0) rfl rfl rfl rfl (Nat.le_of_ble_eq_true rfl) dX1_movesOf_38) (fun r_21 M1 hq => ?_)
    obtain ⟨rfl, h⟩ := hq
    exact zm_lret C hr dX1_movesOf_41 ⟨rfl, h⟩
abbrev rm_X9_below : Room := { frames := 0, cells := 0, slots := 0, locals := 0 }
def w_X9_below (x0 : Int32) (Q : Int32 → Prop) : Prop := Q (((1 : Int32) <<< (x0 &&& 31)) - (1 : Int32))
set_option maxHeartbeats 4000000 in
set_option maxRecDepth 100000 in
theorem c_X9_below (l : Launch) (g : GE) (M : Mem) (x0 : Int32) {Q : Int32 → Prop} (h : w_X9_below x0 Q) : Met l yX9_below (.code yX9_below cX9_below 1 (Option.some Jvm.ClassFile.FieldType.int) :: TB) rm_X9_below (zPc g M [.int x0]) (zQi g (zP0 M Q)) 0 0 (zA g) := by
  unfold w_X9_below at h
  refine zMet (own := RX9) [(0, .int x0)] (by decide +kernel) rfl (Nat.le_of_ble_eq_true rfl) rfl (fun p e s m args below meth c C hr => ?_)
  refine zm_iconst (v := 1) C dX9_below_0 (by decide) ?_
  refine zm_iload_n C dX9_below_1 rfl 0 rfl ?_
  refine zm_ishl C dX9_below_2 ?_
  refine zm_iconst (v := 1) C dX9_below_3 (by decide) ?_
  refine zm_isub C dX9_below_4 ?_
  exact zm_iret C hr dX9_below_5 ⟨rfl, h⟩
abbrev rm_X1_waysBack : Room := { frames := 2, cells := 0, slots := 0, locals := 41 }
def wb_X1_waysBack_94 (k0 : Nat) (u : MU) (Q : Int64 → Prop) (x6 : Int64) : Prop := Q x6
set_option maxHeartbeats 4000000 in
set_option maxRecDepth 100000 in
theorem vb_X1_waysBack_94 {p : Program} {l : Launch} {e : Env} {s : State} {m : MethodId} {args : Array Value} {below : List Frame} {meth : Method} {c : Code} {g : GE} {W : MU × ((Nat → Int64) × (Nat → UInt64))} {u : MU} {k0 : Nat} {Q : Int64 → Prop} (C : zCx p l s m args meth c g RX1 cX1_waysBack 8) (hr : meth.sig.returnType = (Option.some Jvm.ClassFile.FieldType.long)) (hk0 : zkd k0 = 3) (x6 : Int64) (h : wb_X1_waysBack_94  k0 u Q x6) : WM p l e rm_X1_waysBack s m args below meth c g 8 0 0 (MQ below (zQl g (zP0 (u, W) Q)) args s 0 0 (zA g)) 94 [(6, .long x6)] [] (u, W) := by
  unfold wb_X1_waysBack_94 at h
  refine zm_lload C dX1_waysBack_94 0 rfl ?_
  exact zm_lret C hr dX1_waysBack_96 ⟨rfl, h⟩
def wb_X1_waysBack_77 (k0 : Nat) (u : MU) (Q : Int64 → Prop) (x4 : Int32) (x5 : Int32) (s0 : Int64) : Prop := ((x4 = (-1 : Int32)) → wb_X1_waysBack_94  k0 u Q s0) ∧ ((¬ x4 = (-1 : Int32)) → w_X1_isTrap k0 u x4 (fun r_2 => ((r_2 = 0) → w_X9_below x4 (fun r_5 => w_X1_moves k0 u x4 (x5 &&& r_5) (fun r_7 => Q (s0 ||| r_7)))) ∧ ((¬ r_2 = 0) → wb_X1_waysBack_94  k0 u Q s0)))
set_option maxHeartbeats 4000000 in
set_option maxRecDepth 100000 in
theorem vb_X1_waysBack_77 {p : Program} {l : Launch} {e : Env} {s : State} {m : MethodId} {args : Array Value} {below : List Frame} {meth : Method} {c : Code} {g : GE} {W : MU × ((Nat → Int64) × (Nat → UInt64))} {u : MU} {k0 : Nat} {Q : Int64 → Prop} (C : zCx p l s m args meth c g RX1 cX1_waysBack 8) (hr : meth.sig.returnType = (Option.some Jvm.ClassFile.FieldType.long)) (hk0 : zkd k0 = 3) (x4 : Int32) (x5 : Int32) (s0 : Int64) (h : wb_X1_waysBack_77  k0 u Q x4 x5 s0) : WM p l e rm_X1_waysBack s m args below meth c g 8 0 0 (MQ below (zQl g (zP0 (u, W) Q)) args s 0 0 (zA g)) 77 [(0, .ref (g.2.2.1 k0)), (4, .int x4), (5, .int x5)] [.long s0] (u, W) := by
  unfold wb_X1_waysBack_77 at h
  refine zm_lstore (lv' := [(6, .long s0), (0, .ref (g.2.2.1 k0)), (4, .int x4), (5, .int x5)]) C dX1_waysBack_77 (by decide) rfl ?_
  refine zm_iload C dX1_waysBack_79 2 rfl ?_
  refine zm_iconst (v := -1) C dX1_waysBack_81 (by decide) ?_
  refine zm_icmp_eq (tgt := 94) C dX1_waysBack_82 (by decide) (fun hc_1 => ?_) (fun hc_1 => ?_)
  · have h := h.1 hc_1
    exact zm_sub [0] rfl (vb_X1_waysBack_94 C hr hk0  _ h)
  · have h := h.2 hc_1
    refine zm_aload_n C dX1_waysBack_85 rfl 1 rfl ?_
    refine zm_iload C dX1_waysBack_86 2 rfl ?_
    refine zm_ci (zr_V (As := [.int x4]) (rest := []) C (c_X1_isTrap l g u W k0 hk0 x4 h) wd_647 wd_587 wd_588 wd_3 wd_589 hy_X1_isTrap rfl rfl ⟨by decide, by decide⟩ ⟨by decide, by decide⟩ (ci := 1) (zkd_lt hk0 (by decide)) (zCell_k hk0) rfl rfl rfl rfl (Nat.le_of_ble_eq_true rfl) dX1_waysBack_88) (fun r_2 M1 hq => ?_)
    obtain ⟨rfl, h⟩ := hq
    refine zm_if_eq (tgt := 97) C dX1_waysBack_91 (by decide) (fun hc_4 => ?_) (fun hc_4 => ?_)
    · have h := h.1 hc_4
      refine zm_lload C dX1_waysBack_97 0 rfl ?_
      refine zm_aload_n C dX1_waysBack_99 rfl 1 rfl ?_
      refine zm_iload C dX1_waysBack_100 2 rfl ?_
      refine zm_iload C dX1_waysBack_102 3 rfl ?_
      refine zm_iload C dX1_waysBack_104 2 rfl ?_
      refine zm_ci (zr_SN (As := [.int x4]) (rest := [.int x5, .int x4, .ref (g.2.2.1 k0), .long s0]) C (c_X9_below l g (u, W) x4 h) wd_648 wd_649 wd_1 wd_650 hz_X9_below rfl rfl ⟨by decide, by decide⟩ ⟨by decide, by decide⟩ rfl rfl (Nat.le_of_ble_eq_true rfl) dX1_waysBack_106) (fun r_5 M1 hq => ?_)
      obtain ⟨rfl, h⟩ := hq
      refine zm_iand C dX1_waysBack_109 ?_
      refine zm_cl (zr_V (As := [.int x4, .int (x5 &&& r_5)]) (rest := [.long s0]) C (c_X1_moves l g u W k0 hk0 x4 (x5 &&& r_5) h) wd_631 wd_633 wp_14 wd_3 wd_634 hy_X1_moves rfl rfl ⟨by decide, by decide⟩ ⟨by decide, by decide⟩ (ci := 1) (zkd_lt hk0 (by decide)) (zCell_k hk0) rfl rfl rfl rfl (Nat.le_of_ble_eq_true rfl) dX1_waysBack_110) (fun r_7 M1 hq => ?_)
      obtain ⟨rfl, h⟩ := hq
      refine zm_lor C dX1_waysBack_113 ?_
      exact zm_lret C hr dX1_waysBack_114 ⟨rfl, h⟩
    · have h := h.2 hc_4
      exact zm_sub [0] rfl (vb_X1_waysBack_94 C hr hk0  _ h)
def w_X1_waysBack (k0 : Nat) (u : MU) (x1 : Int32) (Q : Int64 → Prop) : Prop := w_X9_foxOf x1 (fun r_1 => w_X9_firstOf x1 (fun r_3 => w_X9_secondOf x1 (fun r_5 => w_X1_taken k0 u x1 (fun r_7 => ∀ x5_9, x5_9 = (r_7 ^^^ (-1 : Int32)) → w_X9_turnOf x1 (fun r_10 => ((¬ r_10 = (1 : Int32)) → w_X1_isTrap k0 u r_3 (fun r_13 => ((r_13 = 0) → w_X9_below r_3 (fun r_16 => w_X1_moves k0 u r_3 (x5_9 &&& r_16) (fun r_18 => wb_X1_waysBack_77  k0 u Q r_5 x5_9 r_18))) ∧ ((¬ r_13 = 0) → wb_X1_waysBack_77  k0 u Q r_5 x5_9 (0 : Int64)))) ∧ ((r_10 = (1 : Int32)) → w_X1_isTrap k0 u r_1 (fun r_20 => ((r_20 = 0) → w_X1_moves k0 u r_1 x5_9 (fun r_23 => Q r_23)) ∧ ((¬ r_20 = 0) → Q (0 : Int64)))))))))
set_option maxHeartbeats 4000000 in
set_option maxRecDepth 100000 in
theorem c_X1_waysBack (l : Launch) (g : GE) (u : MU) (W : MU × ((Nat → Int64) × (Nat → UInt64))) (k0 : Nat) (hk0 : zkd k0 = 3) (x1 : Int32) {Q : Int64 → Prop} (h : w_X1_waysBack k0 u x1 Q) : Met l yX1_waysBack (.code yX1_waysBack cX1_waysBack 8 (Option.some Jvm.ClassFile.FieldType.long) :: TB) rm_X1_waysBack (zPc g (u, W) [.ref (g.2.2.1 k0), .int x1]) (zQl g (zP0 (u, W) Q)) 0 0 (zA g) := by
  unfold w_X1_waysBack at h
  refine zMet (own := RX1) [(0, .ref (g.2.2.1 k0)), (1, .int x1)] (by decide +kernel) rfl (Nat.le_of_ble_eq_true rfl) rfl (fun p e s m args below meth c C hr => ?_)
  refine zm_iload_n C dX1_waysBack_0 rfl 1 rfl ?_
  refine zm_ci (zr_SN (As := [.int x1]) (rest := []) C (c_X9_foxOf l g (u, W) x1 h) wd_625 wd_626 wd_1 wd_627 hz_X9_foxOf rfl rfl ⟨by decide, by decide⟩ ⟨by decide, by decide⟩ rfl rfl (Nat.le_of_ble_eq_true rfl) dX1_waysBack_1) (fun r_1 M1 hq => ?_)
  obtain ⟨rfl, h⟩ := hq
  refine zm_istore_n (lv' := [(2, .int r_1), (0, .ref (g.2.2.1 k0)), (1, .int x1)]) C dX1_waysBack_4 rfl (by decide) rfl ?_
  refine zm_iload_n C dX1_waysBack_5 rfl 2 rfl ?_
  refine zm_ci (zr_SN (As := [.int x1]) (rest := []) C (c_X9_firstOf l g (u, W) x1 h) wd_615 wd_616 wd_1 wd_617 hz_X9_firstOf rfl rfl ⟨by decide, by decide⟩ ⟨by decide, by decide⟩ rfl rfl (Nat.le_of_ble_eq_true rfl) dX1_waysBack_6) (fun r_3 M1 hq => ?_)
  obtain ⟨rfl, h⟩ := hq
  refine zm_istore_n (lv' := [(3, .int r_3), (2, .int r_1), (0, .ref (g.2.2.1 k0)), (1, .int x1)]) C dX1_waysBack_9 rfl (by decide) rfl ?_
  refine zm_iload_n C dX1_waysBack_10 rfl 3 rfl ?_
  refine zm_ci (zr_SN (As := [.int x1]) (rest := []) C (c_X9_secondOf l g (u, W) x1 h) wd_618 wd_619 wd_1 wd_620 hz_X9_secondOf rfl rfl ⟨by decide, by decide⟩ ⟨by decide, by decide⟩ rfl rfl (Nat.le_of_ble_eq_true rfl) dX1_waysBack_11) (fun r_5 M1 hq => ?_)
  obtain ⟨rfl, h⟩ := hq
  refine zm_istore (lv' := [(4, .int r_5), (3, .int r_3), (2, .int r_1), (0, .ref (g.2.2.1 k0)), (1, .int x1)]) C dX1_waysBack_14 (by decide) rfl ?_
  refine zm_aload_n C dX1_waysBack_16 rfl 3 rfl ?_
  refine zm_iload_n C dX1_waysBack_17 rfl 4 rfl ?_
  refine zm_ci (zr_V (As := [.int x1]) (rest := []) C (c_X1_taken l g u W k0 hk0 x1 h) wd_621 wd_623 wp_13 wd_3 wd_624 hy_X1_taken rfl rfl ⟨by decide, by decide⟩ ⟨by decide, by decide⟩ (ci := 1) (zkd_lt hk0 (by decide)) (zCell_k hk0) rfl rfl rfl rfl (Nat.le_of_ble_eq_true rfl) dX1_waysBack_18) (fun r_7 M1 hq => ?_)
  obtain ⟨rfl, h⟩ := hq
  refine zm_iconst (v := -1) C dX1_waysBack_21 (by decide) ?_
  refine zm_ixor C dX1_waysBack_22 ?_
  refine zm_nmI (fun x5_9 hx5_9 => ?_)
  have h := h x5_9 hx5_9
  refine zm_istore (lv' := [(5, .int x5_9), (4, .int r_5), (3, .int r_3), (2, .int r_1), (0, .ref (g.2.2.1 k0)), (1, .int x1)]) C dX1_waysBack_23 (by decide) rfl ?_
  refine zm_iload_n C dX1_waysBack_25 rfl 5 rfl ?_
  refine zm_ci (zr_SN (As := [.int x1]) (rest := []) C (c_X9_turnOf l g (u, W) x1 h) wd_628 wd_629 wd_1 wd_630 hz_X9_turnOf rfl rfl ⟨by decide, by decide⟩ ⟨by decide, by decide⟩ rfl rfl (Nat.le_of_ble_eq_true rfl) dX1_waysBack_26) (fun r_10 M1 hq => ?_)
  obtain ⟨rfl, h⟩ := hq
  refine zm_iconst (v := 1) C dX1_waysBack_29 (by decide) ?_
  refine zm_icmp_ne (tgt := 53) C dX1_waysBack_30 (by decide) (fun hc_12 => ?_) (fun hc_12 => ?_)
  · have h := h.1 hc_12
    refine zm_aload_n C dX1_waysBack_53 rfl 4 rfl ?_
    refine zm_iload_n C dX1_waysBack_54 rfl 2 rfl ?_
    refine zm_ci (zr_V (As := [.int r_3]) (rest := []) C (c_X1_isTrap l g u W k0 hk0 r_3 h) wd_647 wd_587 wd_588 wd_3 wd_589 hy_X1_isTrap rfl rfl ⟨by decide, by decide⟩ ⟨by decide, by decide⟩ (ci := 1) (zkd_lt hk0 (by decide)) (zCell_k hk0) rfl rfl rfl rfl (Nat.le_of_ble_eq_true rfl) dX1_waysBack_55) (fun r_13 M1 hq => ?_)
    obtain ⟨rfl, h⟩ := hq
    refine zm_if_eq (tgt := 65) C dX1_waysBack_58 (by decide) (fun hc_15 => ?_) (fun hc_15 => ?_)
    · have h := h.1 hc_15
      refine zm_aload_n C dX1_waysBack_65 rfl 4 rfl ?_
      refine zm_iload_n C dX1_waysBack_66 rfl 2 rfl ?_
      refine zm_iload C dX1_waysBack_67 0 rfl ?_
      refine zm_iload_n C dX1_waysBack_69 rfl 2 rfl ?_
      refine zm_ci (zr_SN (As := [.int r_3]) (rest := [.int x5_9, .int r_3, .ref (g.2.2.1 k0)]) C (c_X9_below l g (u, W) r_3 h) wd_648 wd_649 wd_1 wd_650 hz_X9_below rfl rfl ⟨by decide, by decide⟩ ⟨by decide, by decide⟩ rfl rfl (Nat.le_of_ble_eq_true rfl) dX1_waysBack_70) (fun r_16 M1 hq => ?_)
      obtain ⟨rfl, h⟩ := hq
      refine zm_iand C dX1_waysBack_73 ?_
      refine zm_cl (zr_V (As := [.int r_3, .int (x5_9 &&& r_16)]) (rest := []) C (c_X1_moves l g u W k0 hk0 r_3 (x5_9 &&& r_16) h) wd_631 wd_633 wp_14 wd_3 wd_634 hy_X1_moves rfl rfl ⟨by decide, by decide⟩ ⟨by decide, by decide⟩ (ci := 1) (zkd_lt hk0 (by decide)) (zCell_k hk0) rfl rfl rfl rfl (Nat.le_of_ble_eq_true rfl) dX1_waysBack_74) (fun r_18 M1 hq => ?_)
      obtain ⟨rfl, h⟩ := hq
      exact zm_sub [4, 1, 0] rfl (vb_X1_waysBack_77 C hr hk0  _ _ _ h)
    · have h := h.2 hc_15
      refine zm_lconst (v := 0) C dX1_waysBack_61 (by decide) ?_
      refine zm_goto (tgt := 77) C dX1_waysBack_62 (by decide) ?_
      exact zm_sub [4, 1, 0] rfl (vb_X1_waysBack_77 C hr hk0  _ _ _ h)
  · have h := h.2 hc_12
    refine zm_aload_n C dX1_waysBack_33 rfl 4 rfl ?_
    refine zm_iload_n C dX1_waysBack_34 rfl 3 rfl ?_
    refine zm_ci (zr_V (As := [.int r_1]) (rest := []) C (c_X1_isTrap l g u W k0 hk0 r_1 h) wd_647 wd_587 wd_588 wd_3 wd_589 hy_X1_isTrap rfl rfl ⟨by decide, by decide⟩ ⟨by decide, by decide⟩ (ci := 1) (zkd_lt hk0 (by decide)) (zCell_k hk0) rfl rfl rfl rfl (Nat.le_of_ble_eq_true rfl) dX1_waysBack_35) (fun r_20 M1 hq => ?_)
    obtain ⟨rfl, h⟩ := hq
    refine zm_if_eq (tgt := 45) C dX1_waysBack_38 (by decide) (fun hc_22 => ?_) (fun hc_22 => ?_)
    · have h := h.1 hc_22
      refine zm_aload_n C dX1_waysBack_45 rfl 4 rfl ?_
      refine zm_iload_n C dX1_waysBack_46 rfl 3 rfl ?_
      refine zm_iload C dX1_waysBack_47 0 rfl ?_
      refine zm_cl (zr_V (As := [.int r_1, .int x5_9]) (rest := []) C (c_X1_moves l g u W k0 hk0 r_1 x5_9 h) wd_631 wd_633 wp_14 wd_3 wd_634 hy_X1_moves rfl rfl ⟨by decide, by decide⟩ ⟨by decide, by decide⟩ (ci := 1) (zkd_lt hk0 (by decide)) (zCell_k hk0) rfl rfl rfl rfl (Nat.le_of_ble_eq_true rfl) dX1_waysBack_49) (fun r_23 M1 hq => ?_)
      obtain ⟨rfl, h⟩ := hq
      exact zm_lret C hr dX1_waysBack_52 ⟨rfl, h⟩
    · have h := h.2 hc_22
      refine zm_lconst (v := 0) C dX1_waysBack_41 (by decide) ?_
      refine zm_goto (tgt := 52) C dX1_waysBack_42 (by decide) ?_
      exact zm_lret C hr dX1_waysBack_52 ⟨rfl, h⟩
abbrev rm_X9_moveNumber : Room := { frames := 0, cells := 0, slots := 0, locals := 0 }
def w_X9_moveNumber (x0 : Int32) (x1 : Int32) (Q : Int32 → Prop) : Prop := Q (((8 : Int32) * x0) + x1)
set_option maxHeartbeats 4000000 in
set_option maxRecDepth 100000 in
theorem c_X9_moveNumber (l : Launch) (g : GE) (M : Mem) (x0 : Int32) (x1 : Int32) {Q : Int32 → Prop} (h : w_X9_moveNumber x0 x1 Q) : Met l yX9_moveNumber (.code yX9_moveNumber cX9_moveNumber 2 (Option.some Jvm.ClassFile.FieldType.int) :: TB) rm_X9_moveNumber (zPc g M [.int x0, .int x1]) (zQi g (zP0 M Q)) 0 0 (zA g) := by
  unfold w_X9_moveNumber at h
  refine zMet (own := RX9) [(0, .int x0), (1, .int x1)] (by decide +kernel) rfl (Nat.le_of_ble_eq_true rfl) rfl (fun p e s m args below meth c C hr => ?_)
  refine zm_bipush (v := 8) C dX9_moveNumber_0 (by decide) ?_
  refine zm_iload_n C dX9_moveNumber_2 rfl 0 rfl ?_
  refine zm_imul C dX9_moveNumber_3 ?_
  refine zm_iload_n C dX9_moveNumber_4 rfl 1 rfl ?_
  refine zm_iadd C dX9_moveNumber_5 ?_
  exact zm_iret C hr dX9_moveNumber_6 ⟨rfl, h⟩
abbrev rm_X1_allows : Room := { frames := 3, cells := 0, slots := 0, locals := 65 }
def w_X1_allows (k0 : Nat) (u : MU) (x1 : Int32) (x2 : Int32) (x3 : Int32) (Q : Int32 → Prop) : Prop := w_X1_has k0 u x2 (fun r_1 => ((r_1 = 0) → Q (0 : Int32)) ∧ ((¬ r_1 = 0) → w_X1_has k0 u x3 (fun r_4 => ((¬ r_4 = 0) → w_X1_movesOf k0 u x1 (fun r_7 => w_X9_moveNumber x2 x3 (fun r_9 => (((lg_cmp ((r_7 >>> (r_9.toInt64 &&& 63)) &&& (1 : Int64)) (0 : Int64)) = 0) → Q (0 : Int32)) ∧ ((¬ (lg_cmp ((r_7 >>> (r_9.toInt64 &&& 63)) &&& (1 : Int64)) (0 : Int64)) = 0) → Q (1 : Int32))))) ∧ ((r_4 = 0) → Q (0 : Int32)))))
set_option maxHeartbeats 4000000 in
set_option maxRecDepth 100000 in
theorem c_X1_allows (l : Launch) (g : GE) (u : MU) (W : MU × ((Nat → Int64) × (Nat → UInt64))) (k0 : Nat) (hk0 : zkd k0 = 3) (x1 : Int32) (x2 : Int32) (x3 : Int32) {Q : Int32 → Prop} (h : w_X1_allows k0 u x1 x2 x3 Q) : Met l yX1_allows (.code yX1_allows cX1_allows 4 (Option.some Jvm.ClassFile.FieldType.boolean) :: TB) rm_X1_allows (zPc g (u, W) [.ref (g.2.2.1 k0), .int x1, .int x2, .int x3]) (zQi g (zP0 (u, W) Q)) 0 0 (zA g) := by
  unfold w_X1_allows at h
  refine zMet (own := RX1) [(0, .ref (g.2.2.1 k0)), (1, .int x1), (2, .int x2), (3, .int x3)] (by decide +kernel) rfl (Nat.le_of_ble_eq_true rfl) rfl (fun p e s m args below meth c C hr => ?_)
  refine zm_aload_n C dX1_allows_0 rfl 0 rfl ?_
  refine zm_iload_n C dX1_allows_1 rfl 2 rfl ?_
  refine zm_ci (zr_V (As := [.int x2]) (rest := []) C (c_X1_has l g u W k0 hk0 x2 h) wd_606 wd_465 wd_466 wd_3 wd_467 hy_X1_has rfl rfl ⟨by decide, by decide⟩ ⟨by decide, by decide⟩ (ci := 1) (zkd_lt hk0 (by decide)) (zCell_k hk0) rfl rfl rfl rfl (Nat.le_of_ble_eq_true rfl) dX1_allows_2) (fun r_1 M1 hq => ?_)
  obtain ⟨rfl, h⟩ := hq
  refine zm_if_eq (tgt := 16) C dX1_allows_5 (by decide) (fun hc_3 => ?_) (fun hc_3 => ?_)
  · have h := h.1 hc_3
    refine zm_iconst (v := 0) C dX1_allows_16 (by decide) ?_
    exact zm_zret (ty := .boolean) C hr (by decide) dX1_allows_17 ⟨rfl, h⟩
  · have h := h.2 hc_3
    refine zm_aload_n C dX1_allows_8 rfl 0 rfl ?_
    refine zm_iload_n C dX1_allows_9 rfl 3 rfl ?_
    refine zm_ci (zr_V (As := [.int x3]) (rest := []) C (c_X1_has l g u W k0 hk0 x3 h) wd_606 wd_465 wd_466 wd_3 wd_467 hy_X1_has rfl rfl ⟨by decide, by decide⟩ ⟨by decide, by decide⟩ (ci := 1) (zkd_lt hk0 (by decide)) (zCell_k hk0) rfl rfl rfl rfl (Nat.le_of_ble_eq_true rfl) dX1_allows_10) (fun r_4 M1 hq => ?_)
    obtain ⟨rfl, h⟩ := hq
    refine zm_if_ne (tgt := 18) C dX1_allows_13 (by decide) (fun hc_6 => ?_) (fun hc_6 => ?_)
    · have h := h.1 hc_6
      refine zm_aload_n C dX1_allows_18 rfl 0 rfl ?_
      refine zm_iload_n C dX1_allows_19 rfl 1 rfl ?_
      refine zm_cl (zr_V (As := [.int x1]) (rest := []) C (c_X1_movesOf l g u W k0 hk0 x1 h) wd_799 wd_612 wd_613 wd_3 wd_614 hy_X1_movesOf rfl rfl ⟨by decide, by decide⟩ ⟨by decide, by decide⟩ (ci := 1) (zkd_lt hk0 (by decide)) (zCell_k hk0) rfl rfl rfl rfl (Nat.le_of_ble_eq_true rfl) dX1_allows_20) (fun r_7 M1 hq => ?_)
      obtain ⟨rfl, h⟩ := hq
      refine zm_iload_n C dX1_allows_23 rfl 2 rfl ?_
      refine zm_iload_n C dX1_allows_24 rfl 3 rfl ?_
      refine zm_ci (zr_SN (As := [.int x2, .int x3]) (rest := [.long r_7]) C (c_X9_moveNumber l g (u, W) x2 x3 h) wd_800 wd_801 wd_1 wd_802 hz_X9_moveNumber rfl rfl ⟨by decide, by decide⟩ ⟨by decide, by decide⟩ rfl rfl (Nat.le_of_ble_eq_true rfl) dX1_allows_25) (fun r_9 M1 hq => ?_)
      obtain ⟨rfl, h⟩ := hq
      refine zm_lshr C dX1_allows_28 ?_
      refine zm_lconst (v := 1) C dX1_allows_29 (by decide) ?_
      refine zm_land C dX1_allows_30 ?_
      refine zm_lconst (v := 0) C dX1_allows_31 (by decide) ?_
      refine zm_lcmp C dX1_allows_32 ?_
      refine zm_if_eq (tgt := 40) C dX1_allows_33 (by decide) (fun hc_11 => ?_) (fun hc_11 => ?_)
      · have h := h.1 hc_11
        refine zm_iconst (v := 0) C dX1_allows_40 (by decide) ?_
        exact zm_zret (ty := .boolean) C hr (by decide) dX1_allows_41 ⟨rfl, h⟩
      · have h := h.2 hc_11
        refine zm_iconst (v := 1) C dX1_allows_36 (by decide) ?_
        refine zm_goto (tgt := 41) C dX1_allows_37 (by decide) ?_
        exact zm_zret (ty := .boolean) C hr (by decide) dX1_allows_41 ⟨rfl, h⟩
    · have h := h.2 hc_6
      refine zm_iconst (v := 0) C dX1_allows_16 (by decide) ?_
      exact zm_zret (ty := .boolean) C hr (by decide) dX1_allows_17 ⟨rfl, h⟩
abbrev rm_X2_start : Room := { frames := 1, cells := 0, slots := 0, locals := 22 }
def w_X2_start (k0 : Nat) (x1 : Int32) (u : MU) (Q : MU → Prop) : Prop := (∀ u_1, u_1 = u2 u k0 0 (1 : Int32) → (∀ u_2, u_2 = u2 u_1 k0 1 (0 : Int32) → w_X9_put (k0 + 1) (0 : Int32) x1 u_2 (fun u_4 => Q u_4)))
set_option maxHeartbeats 4000000 in
set_option maxRecDepth 100000 in
theorem c_X2_start (l : Launch) (g : GE) (u : MU) (W : MU × ((Nat → Int64) × (Nat → UInt64))) (k0 : Nat) (hk0 : zkd k0 = 4) (x1 : Int32) {Q : MU → Prop} (h : w_X2_start k0 x1 u Q) : Met l yX2_start (.code yX2_start cX2_start 2 (Option.none : Option Jvm.ClassFile.FieldType) :: TB) rm_X2_start (zPc g (u, W) [.ref (g.2.2.1 k0), .int x1]) (zQv g (zPxv W Q)) 0 0 (zA g) := by
  unfold w_X2_start at h
  refine zMet (own := RX2) [(0, .ref (g.2.2.1 k0)), (1, .int x1)] (by decide +kernel) rfl (Nat.le_of_ble_eq_true rfl) rfl (fun p e s m args below meth c C hr => ?_)
  refine zm_aload_n C dX2_start_0 rfl 0 rfl ?_
  refine zm_iconst (v := 1) C dX2_start_1 (by decide) ?_
  refine pf_RX2_18 C hk0 (by decide) (by decide) dX2_start_2 (fun u_1 hu_1 => ?_)
  have h := h u_1 hu_1
  refine zm_aload_n C dX2_start_5 rfl 0 rfl ?_
  refine zm_iconst (v := 0) C dX2_start_6 (by decide) ?_
  refine pf_RX2_22 C hk0  dX2_start_7 (fun u_2 hu_2 => ?_)
  have h := h u_2 hu_2
  refine zm_aload_n C dX2_start_10 rfl 0 rfl ?_
  refine gf_RX2_9 (k1 := (k0 + 1)) C hk0 rfl dX2_start_11 ?_
  refine zm_iconst (v := 0) C dX2_start_14 (by decide) ?_
  refine zm_iload_n C dX2_start_15 rfl 1 rfl ?_
  refine zm_cv (zr_SN (As := [.ref (g.2.2.1 (k0 + 1)), .int (0 : Int32), .int x1]) (rest := []) C (c_X9_put l g u_2 W (k0 + 1) (zk4_1 hk0) (0 : Int32) x1 h) wd_784 wd_480 wd_1 wd_481 hz_X9_put rfl rfl ⟨by decide, by decide⟩ ⟨by decide, by decide⟩ rfl rfl (Nat.le_of_ble_eq_true rfl) dX2_start_16) (fun M1 hq => ?_)
  obtain ⟨u_4, rfl, h⟩ := hq
  exact zm_vret C hr dX2_start_19 ⟨_, rfl, h⟩
abbrev rm_X2_add : Room := { frames := 1, cells := 0, slots := 0, locals := 22 }
def w_X2_add (k0 : Nat) (x1 : Int32) (x2 : Int32) (u : MU) (Q : MU → Prop) : Prop := w_X9_put (k0 + 2) (u k0 1) x1 u (fun u_2 => (∀ u_3, u_3 = u2 u_2 k0 1 ((u_2 k0 1) + (1 : Int32)) → w_X9_put (k0 + 1) (u_3 k0 1) x2 u_3 (fun u_5 => Q u_5)))
set_option maxHeartbeats 4000000 in
set_option maxRecDepth 100000 in
theorem c_X2_add (l : Launch) (g : GE) (u : MU) (W : MU × ((Nat → Int64) × (Nat → UInt64))) (k0 : Nat) (hk0 : zkd k0 = 4) (x1 : Int32) (x2 : Int32) {Q : MU → Prop} (h : w_X2_add k0 x1 x2 u Q) : Met l yX2_add (.code yX2_add cX2_add 3 (Option.none : Option Jvm.ClassFile.FieldType) :: TB) rm_X2_add (zPc g (u, W) [.ref (g.2.2.1 k0), .int x1, .int x2]) (zQv g (zPxv W Q)) 0 0 (zA g) := by
  unfold w_X2_add at h
  refine zMet (own := RX2) [(0, .ref (g.2.2.1 k0)), (1, .int x1), (2, .int x2)] (by decide +kernel) rfl (Nat.le_of_ble_eq_true rfl) rfl (fun p e s m args below meth c C hr => ?_)
  refine zm_aload_n C dX2_add_0 rfl 0 rfl ?_
  refine gf_RX2_15 (k1 := (k0 + 2)) C hk0 rfl dX2_add_1 ?_
  refine zm_aload_n C dX2_add_4 rfl 0 rfl ?_
  refine gf_RX2_22 C hk0 dX2_add_5 ?_
  refine zm_iload_n C dX2_add_8 rfl 1 rfl ?_
  refine zm_cv (zr_SN (As := [.ref (g.2.2.1 (k0 + 2)), .int (u k0 1), .int x1]) (rest := []) C (c_X9_put l g u W (k0 + 2) (zk4_2 hk0) (u k0 1) x1 h) wd_784 wd_480 wd_1 wd_481 hz_X9_put rfl rfl ⟨by decide, by decide⟩ ⟨by decide, by decide⟩ rfl rfl (Nat.le_of_ble_eq_true rfl) dX2_add_9) (fun M1 hq => ?_)
  obtain ⟨u_2, rfl, h⟩ := hq
  refine zm_aload_n C dX2_add_12 rfl 0 rfl ?_
  refine zm_dup C dX2_add_13 rfl ?_
  refine gf_RX2_22 C hk0 dX2_add_14 ?_
  refine zm_iconst (v := 1) C dX2_add_17 (by decide) ?_
  refine zm_iadd C dX2_add_18 ?_
  refine pf_RX2_22 C hk0  dX2_add_19 (fun u_3 hu_3 => ?_)
  have h := h u_3 hu_3
  refine zm_aload_n C dX2_add_22 rfl 0 rfl ?_
  refine gf_RX2_9 (k1 := (k0 + 1)) C hk0 rfl dX2_add_23 ?_
  refine zm_aload_n C dX2_add_26 rfl 0 rfl ?_
  refine gf_RX2_22 C hk0 dX2_add_27 ?_
  refine zm_iload_n C dX2_add_30 rfl 2 rfl ?_
  refine zm_cv (zr_SN (As := [.ref (g.2.2.1 (k0 + 1)), .int (u_3 k0 1), .int x2]) (rest := []) C (c_X9_put l g u_3 W (k0 + 1) (zk4_1 hk0) (u_3 k0 1) x2 h) wd_784 wd_480 wd_1 wd_481 hz_X9_put rfl rfl ⟨by decide, by decide⟩ ⟨by decide, by decide⟩ rfl rfl (Nat.le_of_ble_eq_true rfl) dX2_add_31) (fun M1 hq => ?_)
  obtain ⟨u_5, rfl, h⟩ := hq
  exact zm_vret C hr dX2_add_34 ⟨_, rfl, h⟩
abbrev rm_X2_lastPosition : Room := { frames := 1, cells := 0, slots := 0, locals := 21 }
def w_X2_lastPosition (k0 : Nat) (u : MU) (Q : Int32 → Prop) : Prop := w_X9_at (k0 + 1) u (u k0 1) (fun r_1 => Q r_1)
set_option maxHeartbeats 4000000 in
set_option maxRecDepth 100000 in
theorem c_X2_lastPosition (l : Launch) (g : GE) (u : MU) (W : MU × ((Nat → Int64) × (Nat → UInt64))) (k0 : Nat) (hk0 : zkd k0 = 4) {Q : Int32 → Prop} (h : w_X2_lastPosition k0 u Q) : Met l yX2_lastPosition (.code yX2_lastPosition cX2_lastPosition 1 (Option.some Jvm.ClassFile.FieldType.int) :: TB) rm_X2_lastPosition (zPc g (u, W) [.ref (g.2.2.1 k0)]) (zQi g (zP0 (u, W) Q)) 0 0 (zA g) := by
  unfold w_X2_lastPosition at h
  refine zMet (own := RX2) [(0, .ref (g.2.2.1 k0))] (by decide +kernel) rfl (Nat.le_of_ble_eq_true rfl) rfl (fun p e s m args below meth c C hr => ?_)
  refine zm_aload_n C dX2_lastPosition_0 rfl 0 rfl ?_
  refine gf_RX2_9 (k1 := (k0 + 1)) C hk0 rfl dX2_lastPosition_1 ?_
  refine zm_aload_n C dX2_lastPosition_4 rfl 0 rfl ?_
  refine gf_RX2_22 C hk0 dX2_lastPosition_5 ?_
  refine zm_ci (zr_SN (As := [.ref (g.2.2.1 (k0 + 1)), .int (u k0 1)]) (rest := []) C (c_X9_at l g u W (k0 + 1) (zk4_1 hk0) (u k0 1) h) wd_794 wd_473 wd_1 wd_474 hz_X9_at rfl rfl ⟨by decide, by decide⟩ ⟨by decide, by decide⟩ rfl rfl (Nat.le_of_ble_eq_true rfl) dX2_lastPosition_8) (fun r_1 M1 hq => ?_)
  obtain ⟨rfl, h⟩ := hq
  exact zm_iret C hr dX2_lastPosition_11 ⟨rfl, h⟩
abbrev rm_X8_sign : Room := { frames := 0, cells := 0, slots := 0, locals := 0 }
def wb_X8_sign_21 (k0 : Nat) (u : MU) (Q : Int32 → Prop) : Prop := Q (0 : Int32)
set_option maxHeartbeats 4000000 in
set_option maxRecDepth 100000 in
theorem vb_X8_sign_21 {p : Program} {l : Launch} {e : Env} {s : State} {m : MethodId} {args : Array Value} {below : List Frame} {meth : Method} {c : Code} {g : GE} {W : MU × ((Nat → Int64) × (Nat → UInt64))} {u : MU} {k0 : Nat} {Q : Int32 → Prop} (C : zCx p l s m args meth c g RX8 cX8_sign 2) (hr : meth.sig.returnType = (Option.some Jvm.ClassFile.FieldType.char)) (hk0 : zkd k0 = 11) (h : wb_X8_sign_21  k0 u Q ) : WM p l e rm_X8_sign s m args below meth c g 2 0 0 (MQ below (zQi g (zP0 (u, W) Q)) args s 0 0 (zA g)) 21 [] [] (u, W) := by
  unfold wb_X8_sign_21 at h
  refine zm_iconst (v := 0) C dX8_sign_21 (by decide) ?_
  refine zm_goto (tgt := 31) C dX8_sign_22 (by decide) ?_
  exact zm_zret (ty := .char) C hr (by decide) dX8_sign_31 ⟨rfl, h⟩
def w_X8_sign (k0 : Nat) (u : MU) (x1 : Int32) (Q : Int32 → Prop) : Prop := ((x1 < 0) → wb_X8_sign_21  k0 u Q ) ∧ ((¬ x1 < 0) → (((u k0 0) ≤ x1) → wb_X8_sign_21  k0 u Q ) ∧ ((¬ (u k0 0) ≤ x1) → ((x1 < (Int32.ofNat 160)) → vp_in x1 160 ∧ (narrow .char (.int (u (k0 + 1) (x1).toNatClampNeg)) = .int (u (k0 + 1) (x1).toNatClampNeg) ∧ Q (u (k0 + 1) (x1).toNatClampNeg))) ∧ ((¬ x1 < (Int32.ofNat 160)) → wb_X8_sign_21  k0 u Q )))
set_option maxHeartbeats 4000000 in
set_option maxRecDepth 100000 in
theorem c_X8_sign (l : Launch) (g : GE) (u : MU) (W : MU × ((Nat → Int64) × (Nat → UInt64))) (k0 : Nat) (hk0 : zkd k0 = 11) (x1 : Int32) {Q : Int32 → Prop} (h : w_X8_sign k0 u x1 Q) : Met l yX8_sign (.code yX8_sign cX8_sign 2 (Option.some Jvm.ClassFile.FieldType.char) :: TB) rm_X8_sign (zPc g (u, W) [.ref (g.2.2.1 k0), .int x1]) (zQi g (zP0 (u, W) Q)) 0 0 (zA g) := by
  unfold w_X8_sign at h
  refine zMet (own := RX8) [(0, .ref (g.2.2.1 k0)), (1, .int x1)] (by decide +kernel) rfl (Nat.le_of_ble_eq_true rfl) rfl (fun p e s m args below meth c C hr => ?_)
  refine zm_iload_n C dX8_sign_0 rfl 1 rfl ?_
  refine zm_if_lt (tgt := 21) C dX8_sign_1 (by decide) (fun hc_1 => ?_) (fun hc_1 => ?_)
  · have h := h.1 hc_1
    exact zm_sub [] rfl (vb_X8_sign_21 C hr hk0   h)
  · have h := h.2 hc_1
    refine zm_iload_n C dX8_sign_4 rfl 1 rfl ?_
    refine zm_aload_n C dX8_sign_5 rfl 0 rfl ?_
    refine gf_RX8_15 C hk0 dX8_sign_6 ?_
    refine zm_icmp_ge (tgt := 21) C dX8_sign_9 (by decide) (fun hc_2 => ?_) (fun hc_2 => ?_)
    · have h := h.1 hc_2
      exact zm_sub [] rfl (vb_X8_sign_21 C hr hk0   h)
    · have h := h.2 hc_2
      refine zm_iload_n C dX8_sign_12 rfl 1 rfl ?_
      refine zm_aload_n C dX8_sign_13 rfl 0 rfl ?_
      refine gf_RX8_9 (k1 := (k0 + 1)) C hk0 rfl dX8_sign_14 ?_
      refine zm_len_xc C (zk11_1 hk0) (zl11_1 hk0) dX8_sign_17 ?_
      refine zm_icmp_lt (tgt := 25) C dX8_sign_18 (by decide) (fun hc_3 => ?_) (fun hc_3 => ?_)
      · have h := h.1 hc_3
        refine zm_aload_n C dX8_sign_25 rfl 0 rfl ?_
        refine gf_RX8_9 (k1 := (k0 + 1)) C hk0 rfl dX8_sign_26 ?_
        refine zm_iload_n C dX8_sign_29 rfl 1 rfl ?_
        obtain ⟨hg_4, h⟩ := h
        refine zq_ld_xc C (zk11_1 hk0) (zl11_1 hk0) hg_4 dX8_sign_30 ?_
        obtain ⟨hg_5, h⟩ := h
        exact zm_zret (ty := .char) C hr hg_5 dX8_sign_31 ⟨rfl, h⟩
      · have h := h.2 hc_3
        exact zm_sub [] rfl (vb_X8_sign_21 C hr hk0   h)
abbrev rm_X3_digitsOf : Room := { frames := 0, cells := 0, slots := 0, locals := 0 }
set_option maxHeartbeats 4000000 in
theorem zs_X3_digitsOf_1 {p : Program} {l : Launch} {e : Env} {R : Room} {s : State} {m : MethodId} {args : Array Value} {below : List Frame} {meth : Method} {c : Code} {g : GE} {cells slots : Nat} {Q : State → Prop} {lv : List (Nat × Value)} {st : List Value} {M : Mem} (C : zCx p l s m args meth c g RX3 cX3_digitsOf 1) {x : Int32} (h : ¬ x.toInt = 97 ∧ ¬ x.toInt = 98 ∧ ¬ x.toInt = 100 ∧ ¬ x.toInt = 102 ∧ ¬ x.toInt = 103 ∧ ¬ x.toInt = 109 ∧ ¬ x.toInt = 112 ∧ ¬ x.toInt = 116 ∧ ¬ x.toInt = 117 ∧ ¬ x.toInt = 120) (k : WM p l e R s m args below meth c g 1 cells slots Q 120 lv st M) : WM p l e R s m args below meth c g 1 cells slots Q 1 lv (.int x :: st) M := by
  by_cases h1 : x.toInt < 97 ∨ 120 < x.toInt
  · exact zm_tableOut (tgt := 120) C dX3_digitsOf_1 h1 (by decide) k
  · have h2 : x.toInt = 99 ∨ x.toInt = 101 ∨ x.toInt = 104 ∨ x.toInt = 105 ∨ x.toInt = 106 ∨ x.toInt = 107 ∨ x.toInt = 108 ∨ x.toInt = 110 ∨ x.toInt = 111 ∨ x.toInt = 113 ∨ x.toInt = 114 ∨ x.toInt = 115 ∨ x.toInt = 118 ∨ x.toInt = 119 := by omega
    rcases h2 with h2 | h2 | h2 | h2 | h2 | h2 | h2 | h2 | h2 | h2 | h2 | h2 | h2 | h2 <;> exact zm_tableIn (tgt := 120) C dX3_digitsOf_1 (by omega) (by omega) (by rw [h2]; rfl) (by decide) k
def w_X3_digitsOf (x0 : Int32) (Q : Int32 → Prop) : Prop := (x0 = (97 : Int32) → Q (2 : Int32)) ∧ (¬ x0 = (97 : Int32) → (x0 = (98 : Int32) → Q (4 : Int32)) ∧ (¬ x0 = (98 : Int32) → (x0 = (100 : Int32) → Q (0 : Int32)) ∧ (¬ x0 = (100 : Int32) → (x0 = (102 : Int32) → Q (1 : Int32)) ∧ (¬ x0 = (102 : Int32) → (x0 = (103 : Int32) → Q (1 : Int32)) ∧ (¬ x0 = (103 : Int32) → (x0 = (109 : Int32) → Q (1 : Int32)) ∧ (¬ x0 = (109 : Int32) → (x0 = (112 : Int32) → Q (1 : Int32)) ∧ (¬ x0 = (112 : Int32) → (x0 = (116 : Int32) → Q (1 : Int32)) ∧ (¬ x0 = (116 : Int32) → (x0 = (117 : Int32) → Q (0 : Int32)) ∧ (¬ x0 = (117 : Int32) → (x0 = (120 : Int32) → Q (1 : Int32)) ∧ (¬ x0 = (120 : Int32) → Q (-1 : Int32)))))))))))
set_option maxHeartbeats 4000000 in
set_option maxRecDepth 100000 in
theorem c_X3_digitsOf (l : Launch) (g : GE) (M : Mem) (x0 : Int32) {Q : Int32 → Prop} (h : w_X3_digitsOf x0 Q) : Met l yX3_digitsOf (.code yX3_digitsOf cX3_digitsOf 1 (Option.some Jvm.ClassFile.FieldType.int) :: TB) rm_X3_digitsOf (zPc g M [.int x0]) (zQi g (zP0 M Q)) 0 0 (zA g) := by
  unfold w_X3_digitsOf at h
  refine zMet (own := RX3) [(0, .int x0)] (by decide +kernel) rfl (Nat.le_of_ble_eq_true rfl) rfl (fun p e s m args below meth c C hr => ?_)
  refine zm_iload_n C dX3_digitsOf_0 rfl 0 rfl ?_
  by_cases hc_2 : x0 = (97 : Int32)
  · have h := h.1 hc_2
    refine zm_tableIn (tgt := 116) C dX3_digitsOf_1 (by rw [hc_2]; decide) (by rw [hc_2]; decide) (by rw [hc_2]; rfl) (by decide) ?_
    refine zm_iconst (v := 2) C dX3_digitsOf_116 (by decide) ?_
    exact zm_iret C hr dX3_digitsOf_117 ⟨rfl, h⟩
  · have h := h.2 hc_2
    by_cases hc_3 : x0 = (98 : Int32)
    · have h := h.1 hc_3
      refine zm_tableIn (tgt := 118) C dX3_digitsOf_1 (by rw [hc_3]; decide) (by rw [hc_3]; decide) (by rw [hc_3]; rfl) (by decide) ?_
      refine zm_iconst (v := 4) C dX3_digitsOf_118 (by decide) ?_
      exact zm_iret C hr dX3_digitsOf_119 ⟨rfl, h⟩
    · have h := h.2 hc_3
      by_cases hc_4 : x0 = (100 : Int32)
      · have h := h.1 hc_4
        refine zm_tableIn (tgt := 112) C dX3_digitsOf_1 (by rw [hc_4]; decide) (by rw [hc_4]; decide) (by rw [hc_4]; rfl) (by decide) ?_
        refine zm_iconst (v := 0) C dX3_digitsOf_112 (by decide) ?_
        exact zm_iret C hr dX3_digitsOf_113 ⟨rfl, h⟩
      · have h := h.2 hc_4
        by_cases hc_5 : x0 = (102 : Int32)
        · have h := h.1 hc_5
          refine zm_tableIn (tgt := 114) C dX3_digitsOf_1 (by rw [hc_5]; decide) (by rw [hc_5]; decide) (by rw [hc_5]; rfl) (by decide) ?_
          refine zm_iconst (v := 1) C dX3_digitsOf_114 (by decide) ?_
          exact zm_iret C hr dX3_digitsOf_115 ⟨rfl, h⟩
        · have h := h.2 hc_5
          by_cases hc_6 : x0 = (103 : Int32)
          · have h := h.1 hc_6
            refine zm_tableIn (tgt := 114) C dX3_digitsOf_1 (by rw [hc_6]; decide) (by rw [hc_6]; decide) (by rw [hc_6]; rfl) (by decide) ?_
            refine zm_iconst (v := 1) C dX3_digitsOf_114 (by decide) ?_
            exact zm_iret C hr dX3_digitsOf_115 ⟨rfl, h⟩
          · have h := h.2 hc_6
            by_cases hc_7 : x0 = (109 : Int32)
            · have h := h.1 hc_7
              refine zm_tableIn (tgt := 114) C dX3_digitsOf_1 (by rw [hc_7]; decide) (by rw [hc_7]; decide) (by rw [hc_7]; rfl) (by decide) ?_
              refine zm_iconst (v := 1) C dX3_digitsOf_114 (by decide) ?_
              exact zm_iret C hr dX3_digitsOf_115 ⟨rfl, h⟩
            · have h := h.2 hc_7
              by_cases hc_8 : x0 = (112 : Int32)
              · have h := h.1 hc_8
                refine zm_tableIn (tgt := 114) C dX3_digitsOf_1 (by rw [hc_8]; decide) (by rw [hc_8]; decide) (by rw [hc_8]; rfl) (by decide) ?_
                refine zm_iconst (v := 1) C dX3_digitsOf_114 (by decide) ?_
                exact zm_iret C hr dX3_digitsOf_115 ⟨rfl, h⟩
              · have h := h.2 hc_8
                by_cases hc_9 : x0 = (116 : Int32)
                · have h := h.1 hc_9
                  refine zm_tableIn (tgt := 114) C dX3_digitsOf_1 (by rw [hc_9]; decide) (by rw [hc_9]; decide) (by rw [hc_9]; rfl) (by decide) ?_
                  refine zm_iconst (v := 1) C dX3_digitsOf_114 (by decide) ?_
                  exact zm_iret C hr dX3_digitsOf_115 ⟨rfl, h⟩
                · have h := h.2 hc_9
                  by_cases hc_10 : x0 = (117 : Int32)
                  · have h := h.1 hc_10
                    refine zm_tableIn (tgt := 112) C dX3_digitsOf_1 (by rw [hc_10]; decide) (by rw [hc_10]; decide) (by rw [hc_10]; rfl) (by decide) ?_
                    refine zm_iconst (v := 0) C dX3_digitsOf_112 (by decide) ?_
                    exact zm_iret C hr dX3_digitsOf_113 ⟨rfl, h⟩
                  · have h := h.2 hc_10
                    by_cases hc_11 : x0 = (120 : Int32)
                    · have h := h.1 hc_11
                      refine zm_tableIn (tgt := 114) C dX3_digitsOf_1 (by rw [hc_11]; decide) (by rw [hc_11]; decide) (by rw [hc_11]; rfl) (by decide) ?_
                      refine zm_iconst (v := 1) C dX3_digitsOf_114 (by decide) ?_
                      exact zm_iret C hr dX3_digitsOf_115 ⟨rfl, h⟩
                    · have h := h.2 hc_11
                      have n0 := lv_neT (a := 97) hc_2 rfl
                      have n1 := lv_neT (a := 98) hc_3 rfl
                      have n2 := lv_neT (a := 100) hc_4 rfl
                      have n3 := lv_neT (a := 102) hc_5 rfl
                      have n4 := lv_neT (a := 103) hc_6 rfl
                      have n5 := lv_neT (a := 109) hc_7 rfl
                      have n6 := lv_neT (a := 112) hc_8 rfl
                      have n7 := lv_neT (a := 116) hc_9 rfl
                      have n8 := lv_neT (a := 117) hc_10 rfl
                      have n9 := lv_neT (a := 120) hc_11 rfl
                      refine zs_X3_digitsOf_1 C (by omega) ?_
                      refine zm_iconst (v := -1) C dX3_digitsOf_120 (by decide) ?_
                      exact zm_iret C hr dX3_digitsOf_121 ⟨rfl, h⟩
abbrev rm_X3_numberIn : Room := { frames := 1, cells := 0, slots := 0, locals := 21 }
def wl_X3_numberIn_5 (k1 : Nat) (Q : Int32 → MU → Prop) : Nat → Int32 → Int32 → Int32 → MU → Prop
  | 0, _, _, _, _ => False
  | n + 1, x2, x3, x4, u => ((x2 ≤ x4) → Q x3 u) ∧ ((¬ x2 ≤ x4) → w_X8_sign k1 u (u 112 4) (fun r_2 => ((r_2 < (48 : Int32)) → Q x3 u) ∧ ((¬ r_2 < (48 : Int32)) → ((r_2 ≤ (57 : Int32)) → ∀ x3_6, x3_6 = ((((10 : Int32) * (if x3 < (0 : Int32) then (0 : Int32) else x3)) + r_2) - (48 : Int32)) → (∀ u_7, u_7 = u2 u 112 4 ((u 112 4) + (1 : Int32)) → ∀ x4_8, x4_8 = x4 + (1 : Int32) → wl_X3_numberIn_5  k1 Q n x2 x3_6 x4_8 u_7)) ∧ ((¬ r_2 ≤ (57 : Int32)) → Q x3 u))))
set_option maxHeartbeats 4000000 in
set_option maxRecDepth 100000 in
theorem vl_X3_numberIn_5 {p : Program} {l : Launch} {e : Env} {s : State} {m : MethodId} {args : Array Value} {below : List Frame} {meth : Method} {c : Code} {g : GE} {W : MU × ((Nat → Int64) × (Nat → UInt64))} {k1 : Nat} {Q : Int32 → MU → Prop} (C : zCx p l s m args meth c g RX3 cX3_numberIn 6) (hr : meth.sig.returnType = (Option.some Jvm.ClassFile.FieldType.int)) (hk1 : zkd k1 = 11) : ∀ (n : Nat) (x2 : Int32) (x3 : Int32) (x4 : Int32) (u : MU) , wl_X3_numberIn_5  k1 Q n x2 x3 x4 u → WM p l e rm_X3_numberIn s m args below meth c g 6 0 0 (MQ below (zQi g (zPx W Q)) args s 0 0 (zA g)) 5 [(0, .ref (g.2.2.1 112)), (1, .ref (g.2.2.1 k1)), (2, .int x2), (3, .int x3), (4, .int x4)] [] (u, W) := by
  intro n
  induction n with
  | zero => intro _ _ _ _ h; exact h.elim
  | succ n ih =>
    intro x2 x3 x4 u h
    unfold wl_X3_numberIn_5 at h
    refine zm_iload C dX3_numberIn_5 4 rfl ?_
    refine zm_iload_n C dX3_numberIn_7 rfl 2 rfl ?_
    refine zm_icmp_ge (tgt := 69) C dX3_numberIn_8 (by decide) (fun hc_1 => ?_) (fun hc_1 => ?_)
    · have h := h.1 hc_1
      refine zm_iload_n C dX3_numberIn_69 rfl 3 rfl ?_
      exact zm_iret C hr dX3_numberIn_70 ⟨_, rfl, h⟩
    · have h := h.2 hc_1
      refine zm_aload_n C dX3_numberIn_11 rfl 1 rfl ?_
      refine zm_aload_n C dX3_numberIn_12 rfl 0 rfl ?_
      refine gf_RX3_21 C kd_112 dX3_numberIn_13 ?_
      refine zm_ci (zr_V (As := [.int (u 112 4)]) (rest := []) C (c_X8_sign l g u W k1 hk1 (u 112 4) h) wd_747 wd_748 wd_749 wd_8 wd_750 hy_X8_sign rfl rfl ⟨by decide, by decide⟩ ⟨by decide, by decide⟩ (ci := 8) (zkd_lt hk1 (by decide)) (zCell_k hk1) rfl rfl rfl rfl (Nat.le_of_ble_eq_true rfl) dX3_numberIn_16) (fun r_2 M1 hq => ?_)
      obtain ⟨rfl, h⟩ := hq
      refine zm_istore (lv' := [(5, .int r_2), (0, .ref (g.2.2.1 112)), (1, .ref (g.2.2.1 k1)), (2, .int x2), (3, .int x3), (4, .int x4)]) C dX3_numberIn_19 (by decide) rfl ?_
      refine zm_iload C dX3_numberIn_21 0 rfl ?_
      refine zm_bipush (v := 48) C dX3_numberIn_23 (by decide) ?_
      refine zm_icmp_lt (tgt := 69) C dX3_numberIn_25 (by decide) (fun hc_4 => ?_) (fun hc_4 => ?_)
      · have h := h.1 hc_4
        refine zm_iload_n C dX3_numberIn_69 rfl 4 rfl ?_
        exact zm_iret C hr dX3_numberIn_70 ⟨_, rfl, h⟩
      · have h := h.2 hc_4
        refine zm_iload C dX3_numberIn_28 0 rfl ?_
        refine zm_bipush (v := 57) C dX3_numberIn_30 (by decide) ?_
        refine zm_icmp_le (tgt := 38) C dX3_numberIn_32 (by decide) (fun hc_5 => ?_) (fun hc_5 => ?_)
        · have h := h.1 hc_5
          refine zm_bipush (v := 10) C dX3_numberIn_38 (by decide) ?_
          refine zm_iload_n C dX3_numberIn_40 rfl 4 rfl ?_
          refine zm_iconst (v := 0) C dX3_numberIn_41 (by decide) ?_
          refine zm_mmax C wd_758 wd_677 wd_15 wd_678 (Nat.le_of_ble_eq_true rfl) (Nat.le_of_ble_eq_true rfl) (Nat.le_of_ble_eq_true rfl) (Nat.le_of_ble_eq_true rfl) dX3_numberIn_42 ?_
          refine zm_imul C dX3_numberIn_45 ?_
          refine zm_iload C dX3_numberIn_46 0 rfl ?_
          refine zm_iadd C dX3_numberIn_48 ?_
          refine zm_bipush (v := 48) C dX3_numberIn_49 (by decide) ?_
          refine zm_isub C dX3_numberIn_51 ?_
          refine zm_nmI (fun x3_6 hx3_6 => ?_)
          have h := h x3_6 hx3_6
          refine zm_istore_n (lv' := [(3, .int x3_6), (5, .int r_2), (0, .ref (g.2.2.1 112)), (1, .ref (g.2.2.1 k1)), (2, .int x2), (4, .int x4)]) C dX3_numberIn_52 rfl (by decide) rfl ?_
          refine zm_aload_n C dX3_numberIn_53 rfl 2 rfl ?_
          refine zm_dup C dX3_numberIn_54 rfl ?_
          refine gf_RX3_21 C kd_112 dX3_numberIn_55 ?_
          refine zm_iconst (v := 1) C dX3_numberIn_58 (by decide) ?_
          refine zm_iadd C dX3_numberIn_59 ?_
          refine pf_RX3_21 C kd_112  dX3_numberIn_60 (fun u_7 hu_7 => ?_)
          have h := h u_7 hu_7
          obtain ⟨x4_8, hx4_8⟩ : ∃ z, z = x4 + (1 : Int32) := ⟨_, rfl⟩
          have h := h x4_8 hx4_8
          refine zm_iinc (v := x4_8) (lv' := [(4, .int x4_8), (3, .int x3_6), (5, .int r_2), (0, .ref (g.2.2.1 112)), (1, .ref (g.2.2.1 k1)), (2, .int x2)]) C dX3_numberIn_63 5 rfl (by rw [hx4_8]; rfl) (by decide) rfl ?_
          refine zm_goto (tgt := 5) C dX3_numberIn_66 (by decide) ?_
          exact zm_sub [3, 4, 5, 1, 0] rfl (ih _ _ _ _ h)
        · have h := h.2 hc_5
          refine zm_goto (tgt := 69) C dX3_numberIn_35 (by decide) ?_
          refine zm_iload_n C dX3_numberIn_69 rfl 4 rfl ?_
          exact zm_iret C hr dX3_numberIn_70 ⟨_, rfl, h⟩
def w_X3_numberIn (k1 : Nat) (x2 : Int32) (u : MU) (Q : Int32 → MU → Prop) : Prop := ∃ nn, wl_X3_numberIn_5  k1 Q nn x2 (-1 : Int32) (0 : Int32) u
set_option maxHeartbeats 4000000 in
set_option maxRecDepth 100000 in
theorem c_X3_numberIn (l : Launch) (g : GE) (u : MU) (W : MU × ((Nat → Int64) × (Nat → UInt64))) (k1 : Nat) (hk1 : zkd k1 = 11) (x2 : Int32) {Q : Int32 → MU → Prop} (h : w_X3_numberIn k1 x2 u Q) : Met l yX3_numberIn (.code yX3_numberIn cX3_numberIn 6 (Option.some Jvm.ClassFile.FieldType.int) :: TB) rm_X3_numberIn (zPc g (u, W) [.ref (g.2.2.1 112), .ref (g.2.2.1 k1), .int x2]) (zQi g (zPx W Q)) 0 0 (zA g) := by
  unfold w_X3_numberIn at h
  refine zMet (own := RX3) [(0, .ref (g.2.2.1 112)), (1, .ref (g.2.2.1 k1)), (2, .int x2)] (by decide +kernel) rfl (Nat.le_of_ble_eq_true rfl) rfl (fun p e s m args below meth c C hr => ?_)
  refine zm_iconst (v := -1) C dX3_numberIn_0 (by decide) ?_
  refine zm_istore_n (lv' := [(3, .int (-1 : Int32)), (0, .ref (g.2.2.1 112)), (1, .ref (g.2.2.1 k1)), (2, .int x2)]) C dX3_numberIn_1 rfl (by decide) rfl ?_
  refine zm_iconst (v := 0) C dX3_numberIn_2 (by decide) ?_
  refine zm_istore (lv' := [(4, .int (0 : Int32)), (3, .int (-1 : Int32)), (0, .ref (g.2.2.1 112)), (1, .ref (g.2.2.1 k1)), (2, .int x2)]) C dX3_numberIn_3 (by decide) rfl ?_
  obtain ⟨nn, h⟩ := h
  exact zm_sub [2, 3, 4, 1, 0] rfl (vl_X3_numberIn_5 C hr hk1  nn _ _ _ _ h)
