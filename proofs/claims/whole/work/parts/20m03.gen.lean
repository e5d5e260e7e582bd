abbrev rm_X10_isCommand : Room := { frames := 2, cells := 0, slots := 0, locals := 45 }
set_option maxHeartbeats 4000000 in
theorem zs_X10_isCommand_30 {p : Program} {l : Launch} {e : Env} {R : Room} {s : State} {m : MethodId} {args : Array Value} {below : List Frame} {meth : Method} {c : Code} {g : GE} {cells slots : Nat} {Q : State → Prop} {lv : List (Nat × Value)} {st : List Value} {M : Mem} (C : zCx p l s m args meth c g RX10 cX10_isCommand 1) {x : Int32} (h : ¬ x.toInt = 97 ∧ ¬ x.toInt = 98 ∧ ¬ x.toInt = 100 ∧ ¬ x.toInt = 102 ∧ ¬ x.toInt = 103 ∧ ¬ x.toInt = 109 ∧ ¬ x.toInt = 112 ∧ ¬ x.toInt = 116 ∧ ¬ x.toInt = 117 ∧ ¬ x.toInt = 120) (k : WM p l e R s m args below meth c g 1 cells slots Q 289 lv st M) : WM p l e R s m args below meth c g 1 cells slots Q 30 lv (.int x :: st) M := by
  by_cases h1 : x.toInt < 97 ∨ 120 < x.toInt
  · exact zm_tableOut (tgt := 289) C dX10_isCommand_30 h1 (by decide) k
  · have h2 : x.toInt = 99 ∨ x.toInt = 101 ∨ x.toInt = 104 ∨ x.toInt = 105 ∨ x.toInt = 106 ∨ x.toInt = 107 ∨ x.toInt = 108 ∨ x.toInt = 110 ∨ x.toInt = 111 ∨ x.toInt = 113 ∨ x.toInt = 114 ∨ x.toInt = 115 ∨ x.toInt = 118 ∨ x.toInt = 119 := by omega
    rcases h2 with h2 | h2 | h2 | h2 | h2 | h2 | h2 | h2 | h2 | h2 | h2 | h2 | h2 | h2 <;> exact zm_tableIn (tgt := 289) C dX10_isCommand_30 (by omega) (by omega) (by rw [h2]; rfl) (by decide) k
def w_X10_isCommand (u : MU) (Q : Int32 → MU → Prop) : Prop := ((¬ (u 117 10) = (u 117 9)) → vp_in (u 117 10) 60 ∧ ((narrow .char (.int (u 123 ((u 117 10)).toNatClampNeg)) = .int (u 123 ((u 117 10)).toNatClampNeg) ∧ fits .char (.int (u 123 ((u 117 10)).toNatClampNeg)) = true) ∧ (∀ u_3, u_3 = u2 u 117 11 (u 123 ((u 117 10)).toNatClampNeg) → ∀ w_5, w_5 = (u_3 117 11) → (w_5 = (97 : Int32) → (∀ u_7, u_7 = u2 u_3 117 10 ((u_3 117 10) + (1 : Int32)) → w_X10_digits (0 : Int32) (2 : Int32) u_7 (fun r_8 u_9 => narrow .boolean (.int r_8) = .int r_8 ∧ Q r_8 u_9))) ∧ (¬ w_5 = (97 : Int32) → (w_5 = (98 : Int32) → (∀ u_12, u_12 = u2 u_3 117 10 ((u_3 117 10) + (1 : Int32)) → w_X10_digits (0 : Int32) (4 : Int32) u_12 (fun r_13 u_14 => narrow .boolean (.int r_13) = .int r_13 ∧ Q r_13 u_14))) ∧ (¬ w_5 = (98 : Int32) → (w_5 = (100 : Int32) → (∀ u_17, u_17 = u2 u_3 117 10 ((u_3 117 10) + (1 : Int32)) → Q (1 : Int32) u_17)) ∧ (¬ w_5 = (100 : Int32) → (w_5 = (102 : Int32) → (∀ u_19, u_19 = u2 u_3 117 10 ((u_3 117 10) + (1 : Int32)) → w_X10_digits (0 : Int32) (1 : Int32) u_19 (fun r_20 u_21 => narrow .boolean (.int r_20) = .int r_20 ∧ Q r_20 u_21))) ∧ (¬ w_5 = (102 : Int32) → (w_5 = (103 : Int32) → (∀ u_24, u_24 = u2 u_3 117 10 ((u_3 117 10) + (1 : Int32)) → w_X10_digits (0 : Int32) (1 : Int32) u_24 (fun r_25 u_26 => narrow .boolean (.int r_25) = .int r_25 ∧ Q r_25 u_26))) ∧ (¬ w_5 = (103 : Int32) → (w_5 = (109 : Int32) → (∀ u_29, u_29 = u2 u_3 117 10 ((u_3 117 10) + (1 : Int32)) → w_X10_digits (0 : Int32) (1 : Int32) u_29 (fun r_30 u_31 => ((r_30 = 0) → Q (0 : Int32) u_31) ∧ ((¬ r_30 = 0) → w_X10_takes (62 : Int32) u_31 (fun r_33 u_34 => ((r_33 = 0) → Q (0 : Int32) u_34) ∧ ((¬ r_33 = 0) → w_X10_digits (1 : Int32) (1 : Int32) u_34 (fun r_36 u_37 => ((r_36 = 0) → Q (0 : Int32) u_37) ∧ ((¬ r_36 = 0) → Q (1 : Int32) u_37)))))))) ∧ (¬ w_5 = (109 : Int32) → (w_5 = (112 : Int32) → (∀ u_40, u_40 = u2 u_3 117 10 ((u_3 117 10) + (1 : Int32)) → w_X10_digits (0 : Int32) (1 : Int32) u_40 (fun r_41 u_42 => ((r_41 = 0) → Q (0 : Int32) u_42) ∧ ((¬ r_41 = 0) → w_X10_takes (45 : Int32) u_42 (fun r_44 u_45 => ((r_44 = 0) → Q (0 : Int32) u_45) ∧ ((¬ r_44 = 0) → w_X10_digits (1 : Int32) (1 : Int32) u_45 (fun r_47 u_48 => ((r_47 = 0) → Q (0 : Int32) u_48) ∧ ((¬ r_47 = 0) → Q (1 : Int32) u_48)))))))) ∧ (¬ w_5 = (112 : Int32) → (w_5 = (116 : Int32) → (∀ u_51, u_51 = u2 u_3 117 10 ((u_3 117 10) + (1 : Int32)) → w_X10_digits (0 : Int32) (1 : Int32) u_51 (fun r_52 u_53 => narrow .boolean (.int r_52) = .int r_52 ∧ Q r_52 u_53))) ∧ (¬ w_5 = (116 : Int32) → (w_5 = (117 : Int32) → (∀ u_56, u_56 = u2 u_3 117 10 ((u_3 117 10) + (1 : Int32)) → Q (1 : Int32) u_56)) ∧ (¬ w_5 = (117 : Int32) → (w_5 = (120 : Int32) → (∀ u_58, u_58 = u2 u_3 117 10 ((u_3 117 10) + (1 : Int32)) → w_X10_digits (0 : Int32) (1 : Int32) u_58 (fun r_59 u_60 => ((r_59 = 0) → Q (0 : Int32) u_60) ∧ ((¬ r_59 = 0) → w_X10_takes (45 : Int32) u_60 (fun r_62 u_63 => ((r_62 = 0) → Q (0 : Int32) u_63) ∧ ((¬ r_62 = 0) → w_X10_digits (1 : Int32) (1 : Int32) u_63 (fun r_65 u_66 => ((r_65 = 0) → Q (0 : Int32) u_66) ∧ ((¬ r_65 = 0) → Q (1 : Int32) u_66)))))))) ∧ (¬ w_5 = (120 : Int32) → Q (0 : Int32) u_3))))))))))))) ∧ (((u 117 10) = (u 117 9)) → Q (0 : Int32) u)
set_option maxHeartbeats 4000000 in
set_option maxRecDepth 100000 in
theorem c_X10_isCommand (l : Launch) (g : GE) (U : MU) (u : MU) (W : (Nat → Int64) × (Nat → UInt64)) {Q : Int32 → MU → Prop} (h : w_X10_isCommand u Q) : Met l yX10_isCommand (.code yX10_isCommand cX10_isCommand 1 (Option.some Jvm.ClassFile.FieldType.boolean) :: TB) rm_X10_isCommand (zPc g (U, u, W) [.ref (g.2.2.1 117)]) (zQi g (zPm U W Q)) 0 0 (zA g) := by
  unfold w_X10_isCommand at h
  refine zMet (own := RX10) [(0, .ref (g.2.2.1 117))] (by decide +kernel) rfl (Nat.le_of_ble_eq_true rfl) rfl (fun p e s m args below meth c C hr => ?_)
  refine zm_aload_n C dX10_isCommand_0 rfl 0 rfl ?_
  refine gf_RX10_207 C kd_117 dX10_isCommand_1 ?_
  refine zm_aload_n C dX10_isCommand_4 rfl 0 rfl ?_
  refine gf_RX10_204 C kd_117 dX10_isCommand_5 ?_
  refine zm_icmp_ne (tgt := 13) C dX10_isCommand_8 (by decide) (fun hc_1 => ?_) (fun hc_1 => ?_)
  · have h := h.1 hc_1
    refine zm_aload_n C dX10_isCommand_13 rfl 0 rfl ?_
    refine zm_aload_n C dX10_isCommand_14 rfl 0 rfl ?_
    refine gf_RX10_26 (k1 := 123) C kd_117 rfl dX10_isCommand_15 ?_
    refine zm_aload_n C dX10_isCommand_18 rfl 0 rfl ?_
    refine gf_RX10_207 C kd_117 dX10_isCommand_19 ?_
    obtain ⟨hg_2, h⟩ := h
    refine zq_ld_mc C kd_123 ln_123 hg_2 dX10_isCommand_22 ?_
    obtain ⟨hg_4, h⟩ := h
    refine pf_RX10_210 C kd_117 hg_4.1 hg_4.2 dX10_isCommand_23 (fun u_3 hu_3 => ?_)
    have h := h u_3 hu_3
    refine zm_aload_n C dX10_isCommand_26 rfl 0 rfl ?_
    refine gf_RX10_210 C kd_117 dX10_isCommand_27 ?_
    refine zm_nmI (fun w_5 hw_5 => ?_)
    have h := h w_5 hw_5
    by_cases hc_6 : w_5 = (97 : Int32)
    · have h := h.1 hc_6
      refine zm_tableIn (tgt := 272) C dX10_isCommand_30 (by rw [hc_6]; decide) (by rw [hc_6]; decide) (by rw [hc_6]; rfl) (by decide) ?_
      refine zm_aload_n C dX10_isCommand_272 rfl 0 rfl ?_
      refine zm_dup C dX10_isCommand_273 rfl ?_
      refine gf_RX10_207 C kd_117 dX10_isCommand_274 ?_
      refine zm_iconst (v := 1) C dX10_isCommand_277 (by decide) ?_
      refine zm_iadd C dX10_isCommand_278 ?_
      refine pf_RX10_207 C kd_117  dX10_isCommand_279 (fun u_7 hu_7 => ?_)
      have h := h u_7 hu_7
      refine zm_aload_n C dX10_isCommand_282 rfl 0 rfl ?_
      refine zm_iconst (v := 0) C dX10_isCommand_283 (by decide) ?_
      refine zm_iconst (v := 2) C dX10_isCommand_284 (by decide) ?_
      refine zm_ci (zr_V (As := [.int (0 : Int32), .int (2 : Int32)]) (rest := []) C (c_X10_digits l g U u_7 W (0 : Int32) (2 : Int32) h) wd_1424 wd_1426 wp_58 wd_11 wd_1427 hy_X10_digits rfl rfl ⟨by decide, by decide⟩ ⟨by decide, by decide⟩ (ci := 10) (by decide) (zCell_k kd_117) rfl rfl rfl rfl (Nat.le_of_ble_eq_true rfl) dX10_isCommand_285) (fun r_8 M1 hq => ?_)
      obtain ⟨u_9, rfl, h⟩ := hq
      obtain ⟨hg_10, h⟩ := h
      exact zm_zret (ty := .boolean) C hr hg_10 dX10_isCommand_288 ⟨_, rfl, h⟩
    · have h := h.2 hc_6
      by_cases hc_11 : w_5 = (98 : Int32)
      · have h := h.1 hc_11
        refine zm_tableIn (tgt := 255) C dX10_isCommand_30 (by rw [hc_11]; decide) (by rw [hc_11]; decide) (by rw [hc_11]; rfl) (by decide) ?_
        refine zm_aload_n C dX10_isCommand_255 rfl 0 rfl ?_
        refine zm_dup C dX10_isCommand_256 rfl ?_
        refine gf_RX10_207 C kd_117 dX10_isCommand_257 ?_
        refine zm_iconst (v := 1) C dX10_isCommand_260 (by decide) ?_
        refine zm_iadd C dX10_isCommand_261 ?_
        refine pf_RX10_207 C kd_117  dX10_isCommand_262 (fun u_12 hu_12 => ?_)
        have h := h u_12 hu_12
        refine zm_aload_n C dX10_isCommand_265 rfl 0 rfl ?_
        refine zm_iconst (v := 0) C dX10_isCommand_266 (by decide) ?_
        refine zm_iconst (v := 4) C dX10_isCommand_267 (by decide) ?_
        refine zm_ci (zr_V (As := [.int (0 : Int32), .int (4 : Int32)]) (rest := []) C (c_X10_digits l g U u_12 W (0 : Int32) (4 : Int32) h) wd_1424 wd_1426 wp_58 wd_11 wd_1427 hy_X10_digits rfl rfl ⟨by decide, by decide⟩ ⟨by decide, by decide⟩ (ci := 10) (by decide) (zCell_k kd_117) rfl rfl rfl rfl (Nat.le_of_ble_eq_true rfl) dX10_isCommand_268) (fun r_13 M1 hq => ?_)
        obtain ⟨u_14, rfl, h⟩ := hq
        obtain ⟨hg_15, h⟩ := h
        exact zm_zret (ty := .boolean) C hr hg_15 dX10_isCommand_271 ⟨_, rfl, h⟩
      · have h := h.2 hc_11
        by_cases hc_16 : w_5 = (100 : Int32)
        · have h := h.1 hc_16
          refine zm_tableIn (tgt := 140) C dX10_isCommand_30 (by rw [hc_16]; decide) (by rw [hc_16]; decide) (by rw [hc_16]; rfl) (by decide) ?_
          refine zm_aload_n C dX10_isCommand_140 rfl 0 rfl ?_
          refine zm_dup C dX10_isCommand_141 rfl ?_
          refine gf_RX10_207 C kd_117 dX10_isCommand_142 ?_
          refine zm_iconst (v := 1) C dX10_isCommand_145 (by decide) ?_
          refine zm_iadd C dX10_isCommand_146 ?_
          refine pf_RX10_207 C kd_117  dX10_isCommand_147 (fun u_17 hu_17 => ?_)
          have h := h u_17 hu_17
          refine zm_iconst (v := 1) C dX10_isCommand_150 (by decide) ?_
          exact zm_zret (ty := .boolean) C hr (by decide) dX10_isCommand_151 ⟨_, rfl, h⟩
        · have h := h.2 hc_16
          by_cases hc_18 : w_5 = (102 : Int32)
          · have h := h.1 hc_18
            refine zm_tableIn (tgt := 238) C dX10_isCommand_30 (by rw [hc_18]; decide) (by rw [hc_18]; decide) (by rw [hc_18]; rfl) (by decide) ?_
            refine zm_aload_n C dX10_isCommand_238 rfl 0 rfl ?_
            refine zm_dup C dX10_isCommand_239 rfl ?_
            refine gf_RX10_207 C kd_117 dX10_isCommand_240 ?_
            refine zm_iconst (v := 1) C dX10_isCommand_243 (by decide) ?_
            refine zm_iadd C dX10_isCommand_244 ?_
            refine pf_RX10_207 C kd_117  dX10_isCommand_245 (fun u_19 hu_19 => ?_)
            have h := h u_19 hu_19
            refine zm_aload_n C dX10_isCommand_248 rfl 0 rfl ?_
            refine zm_iconst (v := 0) C dX10_isCommand_249 (by decide) ?_
            refine zm_iconst (v := 1) C dX10_isCommand_250 (by decide) ?_
            refine zm_ci (zr_V (As := [.int (0 : Int32), .int (1 : Int32)]) (rest := []) C (c_X10_digits l g U u_19 W (0 : Int32) (1 : Int32) h) wd_1424 wd_1426 wp_58 wd_11 wd_1427 hy_X10_digits rfl rfl ⟨by decide, by decide⟩ ⟨by decide, by decide⟩ (ci := 10) (by decide) (zCell_k kd_117) rfl rfl rfl rfl (Nat.le_of_ble_eq_true rfl) dX10_isCommand_251) (fun r_20 M1 hq => ?_)
            obtain ⟨u_21, rfl, h⟩ := hq
            obtain ⟨hg_22, h⟩ := h
            exact zm_zret (ty := .boolean) C hr hg_22 dX10_isCommand_254 ⟨_, rfl, h⟩
          · have h := h.2 hc_18
            by_cases hc_23 : w_5 = (103 : Int32)
            · have h := h.1 hc_23
              refine zm_tableIn (tgt := 238) C dX10_isCommand_30 (by rw [hc_23]; decide) (by rw [hc_23]; decide) (by rw [hc_23]; rfl) (by decide) ?_
              refine zm_aload_n C dX10_isCommand_238 rfl 0 rfl ?_
              refine zm_dup C dX10_isCommand_239 rfl ?_
              refine gf_RX10_207 C kd_117 dX10_isCommand_240 ?_
              refine zm_iconst (v := 1) C dX10_isCommand_243 (by decide) ?_
              refine zm_iadd C dX10_isCommand_244 ?_
              refine pf_RX10_207 C kd_117  dX10_isCommand_245 (fun u_24 hu_24 => ?_)
              have h := h u_24 hu_24
              refine zm_aload_n C dX10_isCommand_248 rfl 0 rfl ?_
              refine zm_iconst (v := 0) C dX10_isCommand_249 (by decide) ?_
              refine zm_iconst (v := 1) C dX10_isCommand_250 (by decide) ?_
              refine zm_ci (zr_V (As := [.int (0 : Int32), .int (1 : Int32)]) (rest := []) C (c_X10_digits l g U u_24 W (0 : Int32) (1 : Int32) h) wd_1424 wd_1426 wp_58 wd_11 wd_1427 hy_X10_digits rfl rfl ⟨by decide, by decide⟩ ⟨by decide, by decide⟩ (ci := 10) (by decide) (zCell_k kd_117) rfl rfl rfl rfl (Nat.le_of_ble_eq_true rfl) dX10_isCommand_251) (fun r_25 M1 hq => ?_)
              obtain ⟨u_26, rfl, h⟩ := hq
              obtain ⟨hg_27, h⟩ := h
              exact zm_zret (ty := .boolean) C hr hg_27 dX10_isCommand_254 ⟨_, rfl, h⟩
            · have h := h.2 hc_23
              by_cases hc_28 : w_5 = (109 : Int32)
              · have h := h.1 hc_28
                refine zm_tableIn (tgt := 195) C dX10_isCommand_30 (by rw [hc_28]; decide) (by rw [hc_28]; decide) (by rw [hc_28]; rfl) (by decide) ?_
                refine zm_aload_n C dX10_isCommand_195 rfl 0 rfl ?_
                refine zm_dup C dX10_isCommand_196 rfl ?_
                refine gf_RX10_207 C kd_117 dX10_isCommand_197 ?_
                refine zm_iconst (v := 1) C dX10_isCommand_200 (by decide) ?_
                refine zm_iadd C dX10_isCommand_201 ?_
                refine pf_RX10_207 C kd_117  dX10_isCommand_202 (fun u_29 hu_29 => ?_)
                have h := h u_29 hu_29
                refine zm_aload_n C dX10_isCommand_205 rfl 0 rfl ?_
                refine zm_iconst (v := 0) C dX10_isCommand_206 (by decide) ?_
                refine zm_iconst (v := 1) C dX10_isCommand_207 (by decide) ?_
                refine zm_ci (zr_V (As := [.int (0 : Int32), .int (1 : Int32)]) (rest := []) C (c_X10_digits l g U u_29 W (0 : Int32) (1 : Int32) h) wd_1424 wd_1426 wp_58 wd_11 wd_1427 hy_X10_digits rfl rfl ⟨by decide, by decide⟩ ⟨by decide, by decide⟩ (ci := 10) (by decide) (zCell_k kd_117) rfl rfl rfl rfl (Nat.le_of_ble_eq_true rfl) dX10_isCommand_208) (fun r_30 M1 hq => ?_)
                obtain ⟨u_31, rfl, h⟩ := hq
                refine zm_if_eq (tgt := 236) C dX10_isCommand_211 (by decide) (fun hc_32 => ?_) (fun hc_32 => ?_)
                · have h := h.1 hc_32
                  refine zm_iconst (v := 0) C dX10_isCommand_236 (by decide) ?_
                  exact zm_zret (ty := .boolean) C hr (by decide) dX10_isCommand_237 ⟨_, rfl, h⟩
                · have h := h.2 hc_32
                  refine zm_aload_n C dX10_isCommand_214 rfl 0 rfl ?_
                  refine zm_bipush (v := 62) C dX10_isCommand_215 (by decide) ?_
                  refine zm_ci (zr_V (As := [.int (62 : Int32)]) (rest := []) C (c_X10_takes l g U u_31 W (62 : Int32) h) wd_1428 wd_1430 wp_59 wd_11 wd_1431 hy_X10_takes rfl rfl ⟨by decide, by decide⟩ ⟨by decide, by decide⟩ (ci := 10) (by decide) (zCell_k kd_117) rfl rfl rfl rfl (Nat.le_of_ble_eq_true rfl) dX10_isCommand_217) (fun r_33 M1 hq => ?_)
                  obtain ⟨u_34, rfl, h⟩ := hq
                  refine zm_if_eq (tgt := 236) C dX10_isCommand_220 (by decide) (fun hc_35 => ?_) (fun hc_35 => ?_)
                  · have h := h.1 hc_35
                    refine zm_iconst (v := 0) C dX10_isCommand_236 (by decide) ?_
                    exact zm_zret (ty := .boolean) C hr (by decide) dX10_isCommand_237 ⟨_, rfl, h⟩
                  · have h := h.2 hc_35
                    refine zm_aload_n C dX10_isCommand_223 rfl 0 rfl ?_
                    refine zm_iconst (v := 1) C dX10_isCommand_224 (by decide) ?_
                    refine zm_iconst (v := 1) C dX10_isCommand_225 (by decide) ?_
                    refine zm_ci (zr_V (As := [.int (1 : Int32), .int (1 : Int32)]) (rest := []) C (c_X10_digits l g U u_34 W (1 : Int32) (1 : Int32) h) wd_1424 wd_1426 wp_58 wd_11 wd_1427 hy_X10_digits rfl rfl ⟨by decide, by decide⟩ ⟨by decide, by decide⟩ (ci := 10) (by decide) (zCell_k kd_117) rfl rfl rfl rfl (Nat.le_of_ble_eq_true rfl) dX10_isCommand_226) (fun r_36 M1 hq => ?_)
                    obtain ⟨u_37, rfl, h⟩ := hq
                    refine zm_if_eq (tgt := 236) C dX10_isCommand_229 (by decide) (fun hc_38 => ?_) (fun hc_38 => ?_)
                    · have h := h.1 hc_38
                      refine zm_iconst (v := 0) C dX10_isCommand_236 (by decide) ?_
                      exact zm_zret (ty := .boolean) C hr (by decide) dX10_isCommand_237 ⟨_, rfl, h⟩
                    · have h := h.2 hc_38
                      refine zm_iconst (v := 1) C dX10_isCommand_232 (by decide) ?_
                      refine zm_goto (tgt := 237) C dX10_isCommand_233 (by decide) ?_
                      exact zm_zret (ty := .boolean) C hr (by decide) dX10_isCommand_237 ⟨_, rfl, h⟩
              · have h := h.2 hc_28
                by_cases hc_39 : w_5 = (112 : Int32)
                · have h := h.1 hc_39
                  refine zm_tableIn (tgt := 152) C dX10_isCommand_30 (by rw [hc_39]; decide) (by rw [hc_39]; decide) (by rw [hc_39]; rfl) (by decide) ?_
                  refine zm_aload_n C dX10_isCommand_152 rfl 0 rfl ?_
                  refine zm_dup C dX10_isCommand_153 rfl ?_
                  refine gf_RX10_207 C kd_117 dX10_isCommand_154 ?_
                  refine zm_iconst (v := 1) C dX10_isCommand_157 (by decide) ?_
                  refine zm_iadd C dX10_isCommand_158 ?_
                  refine pf_RX10_207 C kd_117  dX10_isCommand_159 (fun u_40 hu_40 => ?_)
                  have h := h u_40 hu_40
                  refine zm_aload_n C dX10_isCommand_162 rfl 0 rfl ?_
                  refine zm_iconst (v := 0) C dX10_isCommand_163 (by decide) ?_
                  refine zm_iconst (v := 1) C dX10_isCommand_164 (by decide) ?_
                  refine zm_ci (zr_V (As := [.int (0 : Int32), .int (1 : Int32)]) (rest := []) C (c_X10_digits l g U u_40 W (0 : Int32) (1 : Int32) h) wd_1424 wd_1426 wp_58 wd_11 wd_1427 hy_X10_digits rfl rfl ⟨by decide, by decide⟩ ⟨by decide, by decide⟩ (ci := 10) (by decide) (zCell_k kd_117) rfl rfl rfl rfl (Nat.le_of_ble_eq_true rfl) dX10_isCommand_165) (fun r_41 M1 hq => ?_)
                  obtain ⟨u_42, rfl, h⟩ := hq
                  refine zm_if_eq (tgt := 193) C dX10_isCommand_168 (by decide) (fun hc_43 => ?_) (fun hc_43 => ?_)
                  · have h := h.1 hc_43
                    refine zm_iconst (v := 0) C dX10_isCommand_193 (by decide) ?_
                    exact zm_zret (ty := .boolean) C hr (by decide) dX10_isCommand_194 ⟨_, rfl, h⟩
                  · have h := h.2 hc_43
                    refine zm_aload_n C dX10_isCommand_171 rfl 0 rfl ?_
                    refine zm_bipush (v := 45) C dX10_isCommand_172 (by decide) ?_
                    refine zm_ci (zr_V (As := [.int (45 : Int32)]) (rest := []) C (c_X10_takes l g U u_42 W (45 : Int32) h) wd_1428 wd_1430 wp_59 wd_11 wd_1431 hy_X10_takes rfl rfl ⟨by decide, by decide⟩ ⟨by decide, by decide⟩ (ci := 10) (by decide) (zCell_k kd_117) rfl rfl rfl rfl (Nat.le_of_ble_eq_true rfl) dX10_isCommand_174) (fun r_44 M1 hq => ?_)
                    obtain ⟨u_45, rfl, h⟩ := hq
                    refine zm_if_eq (tgt := 193) C dX10_isCommand_177 (by decide) (fun hc_46 => ?_) (fun hc_46 => ?_)
                    · have h := h.1 hc_46
                      refine zm_iconst (v := 0) C dX10_isCommand_193 (by decide) ?_
                      exact zm_zret (ty := .boolean) C hr (by decide) dX10_isCommand_194 ⟨_, rfl, h⟩
                    · have h := h.2 hc_46
                      refine zm_aload_n C dX10_isCommand_180 rfl 0 rfl ?_
                      refine zm_iconst (v := 1) C dX10_isCommand_181 (by decide) ?_
                      refine zm_iconst (v := 1) C dX10_isCommand_182 (by decide) ?_
                      refine zm_ci (zr_V (As := [.int (1 : Int32), .int (1 : Int32)]) (rest := []) C (c_X10_digits l g U u_45 W (1 : Int32) (1 : Int32) h) wd_1424 wd_1426 wp_58 wd_11 wd_1427 hy_X10_digits rfl rfl ⟨by decide, by decide⟩ ⟨by decide, by decide⟩ (ci := 10) (by decide) (zCell_k kd_117) rfl rfl rfl rfl (Nat.le_of_ble_eq_true rfl) dX10_isCommand_183) (fun r_47 M1 hq => ?_)
                      obtain ⟨u_48, rfl, h⟩ := hq
                      refine zm_if_eq (tgt := 193) C dX10_isCommand_186 (by decide) (fun hc_49 => ?_) (fun hc_49 => ?_)
                      · have h := h.1 hc_49
                        refine zm_iconst (v := 0) C dX10_isCommand_193 (by decide) ?_
                        exact zm_zret (ty := .boolean) C hr (by decide) dX10_isCommand_194 ⟨_, rfl, h⟩
                      · have h := h.2 hc_49
                        refine zm_iconst (v := 1) C dX10_isCommand_189 (by decide) ?_
                        refine zm_goto (tgt := 194) C dX10_isCommand_190 (by decide) ?_
                        exact zm_zret (ty := .boolean) C hr (by decide) dX10_isCommand_194 ⟨_, rfl, h⟩
                · have h := h.2 hc_39
                  by_cases hc_50 : w_5 = (116 : Int32)
                  · have h := h.1 hc_50
                    refine zm_tableIn (tgt := 238) C dX10_isCommand_30 (by rw [hc_50]; decide) (by rw [hc_50]; decide) (by rw [hc_50]; rfl) (by decide) ?_
                    refine zm_aload_n C dX10_isCommand_238 rfl 0 rfl ?_
                    refine zm_dup C dX10_isCommand_239 rfl ?_
                    refine gf_RX10_207 C kd_117 dX10_isCommand_240 ?_
                    refine zm_iconst (v := 1) C dX10_isCommand_243 (by decide) ?_
                    refine zm_iadd C dX10_isCommand_244 ?_
                    refine pf_RX10_207 C kd_117  dX10_isCommand_245 (fun u_51 hu_51 => ?_)
                    have h := h u_51 hu_51
                    refine zm_aload_n C dX10_isCommand_248 rfl 0 rfl ?_
                    refine zm_iconst (v := 0) C dX10_isCommand_249 (by decide) ?_
                    refine zm_iconst (v := 1) C dX10_isCommand_250 (by decide) ?_
                    refine zm_ci (zr_V (As := [.int (0 : Int32), .int (1 : Int32)]) (rest := []) C (c_X10_digits l g U u_51 W (0 : Int32) (1 : Int32) h) wd_1424 wd_1426 wp_58 wd_11 wd_1427 hy_X10_digits rfl rfl ⟨by decide, by decide⟩ ⟨by decide, by decide⟩ (ci := 10) (by decide) (zCell_k kd_117) rfl rfl rfl rfl (Nat.le_of_ble_eq_true rfl) dX10_isCommand_251) (fun r_52 M1 hq => ?_)
                    obtain ⟨u_53, rfl, h⟩ := hq
                    obtain ⟨hg_54, h⟩ := h
                    exact zm_zret (ty := .boolean) C hr hg_54 dX10_isCommand_254 ⟨_, rfl, h⟩
                  · have h := h.2 hc_50
                    by_cases hc_55 : w_5 = (117 : Int32)
                    · have h := h.1 hc_55
                      refine zm_tableIn (tgt := 140) C dX10_isCommand_30 (by rw [hc_55]; decide) (by rw [hc_55]; decide) (by rw [hc_55]; rfl) (by decide) ?_
                      refine zm_aload_n C dX10_isCommand_140 rfl 0 rfl ?_
                      refine zm_dup C dX10_isCommand_141 rfl ?_
                      refine gf_RX10_207 C kd_117 dX10_isCommand_142 ?_
                      refine zm_iconst (v := 1) C dX10_isCommand_145 (by decide) ?_
                      refine zm_iadd C dX10_isCommand_146 ?_
                      refine pf_RX10_207 C kd_117  dX10_isCommand_147 (fun u_56 hu_56 => ?_)
                      have h := h u_56 hu_56
                      refine zm_iconst (v := 1) C dX10_isCommand_150 (by decide) ?_
                      exact zm_zret (ty := .boolean) C hr (by decide) dX10_isCommand_151 ⟨_, rfl, h⟩
                    · have h := h.2 hc_55
                      by_cases hc_57 : w_5 = (120 : Int32)
                      · have h := h.1 hc_57
                        refine zm_tableIn (tgt := 152) C dX10_isCommand_30 (by rw [hc_57]; decide) (by rw [hc_57]; decide) (by rw [hc_57]; rfl) (by decide) ?_
                        refine zm_aload_n C dX10_isCommand_152 rfl 0 rfl ?_
                        refine zm_dup C dX10_isCommand_153 rfl ?_
                        refine gf_RX10_207 C kd_117 dX10_isCommand_154 ?_
                        refine zm_iconst (v := 1) C dX10_isCommand_157 (by decide) ?_
                        refine zm_iadd C dX10_isCommand_158 ?_
                        refine pf_RX10_207 C kd_117  dX10_isCommand_159 (fun u_58 hu_58 => ?_)
                        have h := h u_58 hu_58
                        refine zm_aload_n C dX10_isCommand_162 rfl 0 rfl ?_
                        refine zm_iconst (v := 0) C dX10_isCommand_163 (by decide) ?_
                        refine zm_iconst (v := 1) C dX10_isCommand_164 (by decide) ?_
                        refine zm_ci (zr_V (As := [.int (0 : Int32), .int (1 : Int32)]) (rest := []) C (c_X10_digits l g U u_58 W (0 : Int32) (1 : Int32) h) wd_1424 wd_1426 wp_58 wd_11 wd_1427 hy_X10_digits rfl rfl ⟨by decide, by decide⟩ ⟨by decide, by decide⟩ (ci := 10) (by decide) (zCell_k kd_117) rfl rfl rfl rfl (Nat.le_of_ble_eq_true rfl) dX10_isCommand_165) (fun r_59 M1 hq => ?_)
                        obtain ⟨u_60, rfl, h⟩ := hq
                        refine zm_if_eq (tgt := 193) C dX10_isCommand_168 (by decide) (fun hc_61 => ?_) (fun hc_61 => ?_)
                        · have h := h.1 hc_61
                          refine zm_iconst (v := 0) C dX10_isCommand_193 (by decide) ?_
                          exact zm_zret (ty := .boolean) C hr (by decide) dX10_isCommand_194 ⟨_, rfl, h⟩
                        · have h := h.2 hc_61
                          refine zm_aload_n C dX10_isCommand_171 rfl 0 rfl ?_
                          refine zm_bipush (v := 45) C dX10_isCommand_172 (by decide) ?_
                          refine zm_ci (zr_V (As := [.int (45 : Int32)]) (rest := []) C (c_X10_takes l g U u_60 W (45 : Int32) h) wd_1428 wd_1430 wp_59 wd_11 wd_1431 hy_X10_takes rfl rfl ⟨by decide, by decide⟩ ⟨by decide, by decide⟩ (ci := 10) (by decide) (zCell_k kd_117) rfl rfl rfl rfl (Nat.le_of_ble_eq_true rfl) dX10_isCommand_174) (fun r_62 M1 hq => ?_)
                          obtain ⟨u_63, rfl, h⟩ := hq
                          refine zm_if_eq (tgt := 193) C dX10_isCommand_177 (by decide) (fun hc_64 => ?_) (fun hc_64 => ?_)
                          · have h := h.1 hc_64
                            refine zm_iconst (v := 0) C dX10_isCommand_193 (by decide) ?_
                            exact zm_zret (ty := .boolean) C hr (by decide) dX10_isCommand_194 ⟨_, rfl, h⟩
                          · have h := h.2 hc_64
                            refine zm_aload_n C dX10_isCommand_180 rfl 0 rfl ?_
                            refine zm_iconst (v := 1) C dX10_isCommand_181 (by decide) ?_
                            refine zm_iconst (v := 1) C dX10_isCommand_182 (by decide) ?_
                            refine zm_ci (zr_V (As := [.int (1 : Int32), .int (1 : Int32)]) (rest := []) C (c_X10_digits l g U u_63 W (1 : Int32) (1 : Int32) h) wd_1424 wd_1426 wp_58 wd_11 wd_1427 hy_X10_digits rfl rfl ⟨by decide, by decide⟩ ⟨by decide, by decide⟩ (ci := 10) (by decide) (zCell_k kd_117) rfl rfl rfl rfl (Nat.le_of_ble_eq_true rfl) dX10_isCommand_183) (fun r_65 M1 hq => ?_)
                            obtain ⟨u_66, rfl, h⟩ := hq
                            refine zm_if_eq (tgt := 193) C dX10_isCommand_186 (by decide) (fun hc_67 => ?_) (fun hc_67 => ?_)
                            · have h := h.1 hc_67
                              refine zm_iconst (v := 0) C dX10_isCommand_193 (by decide) ?_
                              exact zm_zret (ty := .boolean) C hr (by decide) dX10_isCommand_194 ⟨_, rfl, h⟩
                            · have h := h.2 hc_67
                              refine zm_iconst (v := 1) C dX10_isCommand_189 (by decide) ?_
                              refine zm_goto (tgt := 194) C dX10_isCommand_190 (by decide) ?_
                              exact zm_zret (ty := .boolean) C hr (by decide) dX10_isCommand_194 ⟨_, rfl, h⟩
                      · have h := h.2 hc_57
                        have n0 := lv_neT (a := 97) hc_6 rfl
                        have n1 := lv_neT (a := 98) hc_11 rfl
                        have n2 := lv_neT (a := 100) hc_16 rfl
                        have n3 := lv_neT (a := 102) hc_18 rfl
                        have n4 := lv_neT (a := 103) hc_23 rfl
                        have n5 := lv_neT (a := 109) hc_28 rfl
                        have n6 := lv_neT (a := 112) hc_39 rfl
                        have n7 := lv_neT (a := 116) hc_50 rfl
                        have n8 := lv_neT (a := 117) hc_55 rfl
                        have n9 := lv_neT (a := 120) hc_57 rfl
                        refine zs_X10_isCommand_30 C (by omega) ?_
                        refine zm_iconst (v := 0) C dX10_isCommand_289 (by decide) ?_
                        exact zm_zret (ty := .boolean) C hr (by decide) dX10_isCommand_290 ⟨_, rfl, h⟩
  · have h := h.2 hc_1
    refine zm_iconst (v := 0) C dX10_isCommand_11 (by decide) ?_
    exact zm_zret (ty := .boolean) C hr (by decide) dX10_isCommand_12 ⟨_, rfl, h⟩
abbrev rm_X10_carries : Room := { frames := 6, cells := 0, slots := 0, locals := 138 }
set_option maxHeartbeats 4000000 in
theorem zs_X10_carries_4 {p : Program} {l : Launch} {e : Env} {R : Room} {s : State} {m : MethodId} {args : Array Value} {below : List Frame} {meth : Method} {c : Code} {g : GE} {cells slots : Nat} {Q : State → Prop} {lv : List (Nat × Value)} {st : List Value} {M : Mem} (C : zCx p l s m args meth c g RX10 cX10_carries 1) {x : Int32} (h : ¬ x.toInt = 98 ∧ ¬ x.toInt = 100 ∧ ¬ x.toInt = 102 ∧ ¬ x.toInt = 103 ∧ ¬ x.toInt = 109 ∧ ¬ x.toInt = 112 ∧ ¬ x.toInt = 116 ∧ ¬ x.toInt = 117 ∧ ¬ x.toInt = 120) (k : WM p l e R s m args below meth c g 1 cells slots Q 219 lv st M) : WM p l e R s m args below meth c g 1 cells slots Q 4 lv (.int x :: st) M := by
  by_cases h1 : x.toInt < 98 ∨ 120 < x.toInt
  · exact zm_tableOut (tgt := 219) C dX10_carries_4 h1 (by decide) k
  · have h2 : x.toInt = 99 ∨ x.toInt = 101 ∨ x.toInt = 104 ∨ x.toInt = 105 ∨ x.toInt = 106 ∨ x.toInt = 107 ∨ x.toInt = 108 ∨ x.toInt = 110 ∨ x.toInt = 111 ∨ x.toInt = 113 ∨ x.toInt = 114 ∨ x.toInt = 115 ∨ x.toInt = 118 ∨ x.toInt = 119 := by omega
    rcases h2 with h2 | h2 | h2 | h2 | h2 | h2 | h2 | h2 | h2 | h2 | h2 | h2 | h2 | h2 <;> exact zm_tableIn (tgt := 219) C dX10_carries_4 (by omega) (by omega) (by rw [h2]; rfl) (by decide) k
def w_X10_carries (u : MU) (Q : Int32 → MU → Prop) : Prop := ∀ w_1, w_1 = (u 117 11) → (w_1 = (98 : Int32) → vp_in (0 : Int32) 2 ∧ (w_X10_begins (u 124 ((0 : Int32)).toNatClampNeg) u (fun r_4 u_5 => Q r_4 u_5))) ∧ (¬ w_1 = (98 : Int32) → (w_1 = (100 : Int32) → w_X10_digs  u (fun r_7 u_8 => Q r_7 u_8)) ∧ (¬ w_1 = (100 : Int32) → (w_1 = (102 : Int32) → vp_in (0 : Int32) 2 ∧ (w_X10_traps (u 124 ((0 : Int32)).toNatClampNeg) (0 : Int32) u (fun r_11 u_12 => Q r_11 u_12))) ∧ (¬ w_1 = (102 : Int32) → (w_1 = (103 : Int32) → vp_in (0 : Int32) 2 ∧ (w_X10_flocks (u 124 ((0 : Int32)).toNatClampNeg) u (fun r_15 u_16 => Q r_15 u_16))) ∧ (¬ w_1 = (103 : Int32) → (w_1 = (109 : Int32) → vp_in (0 : Int32) 2 ∧ (vp_in (1 : Int32) 2 ∧ (w_X10_goes (u 124 ((0 : Int32)).toNatClampNeg) (u 124 ((1 : Int32)).toNatClampNeg) u (fun r_20 u_21 => Q r_20 u_21)))) ∧ (¬ w_1 = (109 : Int32) → (w_1 = (112 : Int32) → vp_in (0 : Int32) 2 ∧ (vp_in (1 : Int32) 2 ∧ (w_X10_treads (u 124 ((0 : Int32)).toNatClampNeg) (u 124 ((1 : Int32)).toNatClampNeg) u (fun r_25 u_26 => Q r_25 u_26)))) ∧ (¬ w_1 = (112 : Int32) → (w_1 = (116 : Int32) → vp_in (0 : Int32) 2 ∧ (w_X10_traps (u 124 ((0 : Int32)).toNatClampNeg) (1 : Int32) u (fun r_29 u_30 => Q r_29 u_30))) ∧ (¬ w_1 = (116 : Int32) → (w_1 = (117 : Int32) → w_X10_takesBack  u (fun r_32 u_33 => Q r_32 u_33)) ∧ (¬ w_1 = (117 : Int32) → (w_1 = (120 : Int32) → vp_in (0 : Int32) 2 ∧ (vp_in (1 : Int32) 2 ∧ (w_X10_grows (u 124 ((0 : Int32)).toNatClampNeg) (u 124 ((1 : Int32)).toNatClampNeg) u (fun r_37 u_38 => Q r_37 u_38)))) ∧ (¬ w_1 = (120 : Int32) → vp_in (0 : Int32) 2 ∧ (w_X10_plays (u 124 ((0 : Int32)).toNatClampNeg) u (fun r_40 u_41 => Q r_40 u_41)))))))))))
set_option maxHeartbeats 4000000 in
set_option maxRecDepth 100000 in
theorem c_X10_carries (l : Launch) (g : GE) (U : MU) (u : MU) (W : (Nat → Int64) × (Nat → UInt64)) {Q : Int32 → MU → Prop} (h : w_X10_carries u Q) : Met l yX10_carries (.code yX10_carries cX10_carries 1 (Option.some Jvm.ClassFile.FieldType.int) :: TB) rm_X10_carries (zPc g (U, u, W) [.ref (g.2.2.1 117)]) (zQi g (zPm U W Q)) 0 0 (zA g) := by
  unfold w_X10_carries at h
  refine zMet (own := RX10) [(0, .ref (g.2.2.1 117))] (by decide +kernel) rfl (Nat.le_of_ble_eq_true rfl) rfl (fun p e s m args below meth c C hr => ?_)
  refine zm_aload_n C dX10_carries_0 rfl 0 rfl ?_
  refine gf_RX10_210 C kd_117 dX10_carries_1 ?_
  refine zm_nmI (fun w_1 hw_1 => ?_)
  have h := h w_1 hw_1
  by_cases hc_2 : w_1 = (98 : Int32)
  · have h := h.1 hc_2
    refine zm_tableIn (tgt := 208) C dX10_carries_4 (by rw [hc_2]; decide) (by rw [hc_2]; decide) (by rw [hc_2]; rfl) (by decide) ?_
    refine zm_aload_n C dX10_carries_208 rfl 0 rfl ?_
    refine zm_aload_n C dX10_carries_209 rfl 0 rfl ?_
    refine gf_RX10_29 (k1 := 124) C kd_117 rfl dX10_carries_210 ?_
    refine zm_iconst (v := 0) C dX10_carries_213 (by decide) ?_
    obtain ⟨hg_3, h⟩ := h
    refine zq_ld_m C kd_124 ln_124 hg_3 dX10_carries_214 ?_
    refine zm_ci (zr_V (As := [.int (u 124 ((0 : Int32)).toNatClampNeg)]) (rest := []) C (c_X10_begins l g U u W (u 124 ((0 : Int32)).toNatClampNeg) h) wd_1264 wd_1266 wp_43 wd_11 wd_1267 hy_X10_begins rfl rfl ⟨by decide, by decide⟩ ⟨by decide, by decide⟩ (ci := 10) (by decide) (zCell_k kd_117) rfl rfl rfl rfl (Nat.le_of_ble_eq_true rfl) dX10_carries_215) (fun r_4 M1 hq => ?_)
    obtain ⟨u_5, rfl, h⟩ := hq
    exact zm_iret C hr dX10_carries_218 ⟨_, rfl, h⟩
  · have h := h.2 hc_2
    by_cases hc_6 : w_1 = (100 : Int32)
    · have h := h.1 hc_6
      refine zm_tableIn (tgt := 112) C dX10_carries_4 (by rw [hc_6]; decide) (by rw [hc_6]; decide) (by rw [hc_6]; rfl) (by decide) ?_
      refine zm_aload_n C dX10_carries_112 rfl 0 rfl ?_
      refine zm_ci (zr_V (As := []) (rest := []) C (c_X10_digs l g U u W  h) wd_1188 wd_1190 wp_30 wd_11 wd_1191 hy_X10_digs rfl rfl ⟨by decide, by decide⟩ ⟨by decide, by decide⟩ (ci := 10) (by decide) (zCell_k kd_117) rfl rfl rfl rfl (Nat.le_of_ble_eq_true rfl) dX10_carries_113) (fun r_7 M1 hq => ?_)
      obtain ⟨u_8, rfl, h⟩ := hq
      exact zm_iret C hr dX10_carries_116 ⟨_, rfl, h⟩
    · have h := h.2 hc_6
      by_cases hc_9 : w_1 = (102 : Int32)
      · have h := h.1 hc_9
        refine zm_tableIn (tgt := 185) C dX10_carries_4 (by rw [hc_9]; decide) (by rw [hc_9]; decide) (by rw [hc_9]; rfl) (by decide) ?_
        refine zm_aload_n C dX10_carries_185 rfl 0 rfl ?_
        refine zm_aload_n C dX10_carries_186 rfl 0 rfl ?_
        refine gf_RX10_29 (k1 := 124) C kd_117 rfl dX10_carries_187 ?_
        refine zm_iconst (v := 0) C dX10_carries_190 (by decide) ?_
        obtain ⟨hg_10, h⟩ := h
        refine zq_ld_m C kd_124 ln_124 hg_10 dX10_carries_191 ?_
        refine zm_iconst (v := 0) C dX10_carries_192 (by decide) ?_
        refine zm_ci (zr_V (As := [.int (u 124 ((0 : Int32)).toNatClampNeg), .int (0 : Int32)]) (rest := []) C (c_X10_traps l g U u W (u 124 ((0 : Int32)).toNatClampNeg) (0 : Int32) h) wd_1243 wd_1245 wp_40 wd_11 wd_1246 hy_X10_traps rfl rfl ⟨by decide, by decide⟩ ⟨by decide, by decide⟩ (ci := 10) (by decide) (zCell_k kd_117) rfl rfl rfl rfl (Nat.le_of_ble_eq_true rfl) dX10_carries_193) (fun r_11 M1 hq => ?_)
        obtain ⟨u_12, rfl, h⟩ := hq
        exact zm_iret C hr dX10_carries_196 ⟨_, rfl, h⟩
      · have h := h.2 hc_9
        by_cases hc_13 : w_1 = (103 : Int32)
        · have h := h.1 hc_13
          refine zm_tableIn (tgt := 197) C dX10_carries_4 (by rw [hc_13]; decide) (by rw [hc_13]; decide) (by rw [hc_13]; rfl) (by decide) ?_
          refine zm_aload_n C dX10_carries_197 rfl 0 rfl ?_
          refine zm_aload_n C dX10_carries_198 rfl 0 rfl ?_
          refine gf_RX10_29 (k1 := 124) C kd_117 rfl dX10_carries_199 ?_
          refine zm_iconst (v := 0) C dX10_carries_202 (by decide) ?_
          obtain ⟨hg_14, h⟩ := h
          refine zq_ld_m C kd_124 ln_124 hg_14 dX10_carries_203 ?_
          refine zm_ci (zr_V (As := [.int (u 124 ((0 : Int32)).toNatClampNeg)]) (rest := []) C (c_X10_flocks l g U u W (u 124 ((0 : Int32)).toNatClampNeg) h) wd_1256 wd_1258 wp_42 wd_11 wd_1259 hy_X10_flocks rfl rfl ⟨by decide, by decide⟩ ⟨by decide, by decide⟩ (ci := 10) (by decide) (zCell_k kd_117) rfl rfl rfl rfl (Nat.le_of_ble_eq_true rfl) dX10_carries_204) (fun r_15 M1 hq => ?_)
          obtain ⟨u_16, rfl, h⟩ := hq
          exact zm_iret C hr dX10_carries_207 ⟨_, rfl, h⟩
        · have h := h.2 hc_13
          by_cases hc_17 : w_1 = (109 : Int32)
          · have h := h.1 hc_17
            refine zm_tableIn (tgt := 156) C dX10_carries_4 (by rw [hc_17]; decide) (by rw [hc_17]; decide) (by rw [hc_17]; rfl) (by decide) ?_
            refine zm_aload_n C dX10_carries_156 rfl 0 rfl ?_
            refine zm_aload_n C dX10_carries_157 rfl 0 rfl ?_
            refine gf_RX10_29 (k1 := 124) C kd_117 rfl dX10_carries_158 ?_
            refine zm_iconst (v := 0) C dX10_carries_161 (by decide) ?_
            obtain ⟨hg_18, h⟩ := h
            refine zq_ld_m C kd_124 ln_124 hg_18 dX10_carries_162 ?_
            refine zm_aload_n C dX10_carries_163 rfl 0 rfl ?_
            refine gf_RX10_29 (k1 := 124) C kd_117 rfl dX10_carries_164 ?_
            refine zm_iconst (v := 1) C dX10_carries_167 (by decide) ?_
            obtain ⟨hg_19, h⟩ := h
            refine zq_ld_m C kd_124 ln_124 hg_19 dX10_carries_168 ?_
            refine zm_ci (zr_V (As := [.int (u 124 ((0 : Int32)).toNatClampNeg), .int (u 124 ((1 : Int32)).toNatClampNeg)]) (rest := []) C (c_X10_goes l g U u W (u 124 ((0 : Int32)).toNatClampNeg) (u 124 ((1 : Int32)).toNatClampNeg) h) wd_1304 wd_1306 wp_49 wd_11 wd_1307 hy_X10_goes rfl rfl ⟨by decide, by decide⟩ ⟨by decide, by decide⟩ (ci := 10) (by decide) (zCell_k kd_117) rfl rfl rfl rfl (Nat.le_of_ble_eq_true rfl) dX10_carries_169) (fun r_20 M1 hq => ?_)
            obtain ⟨u_21, rfl, h⟩ := hq
            exact zm_iret C hr dX10_carries_172 ⟨_, rfl, h⟩
          · have h := h.2 hc_17
            by_cases hc_22 : w_1 = (112 : Int32)
            · have h := h.1 hc_22
              refine zm_tableIn (tgt := 122) C dX10_carries_4 (by rw [hc_22]; decide) (by rw [hc_22]; decide) (by rw [hc_22]; rfl) (by decide) ?_
              refine zm_aload_n C dX10_carries_122 rfl 0 rfl ?_
              refine zm_aload_n C dX10_carries_123 rfl 0 rfl ?_
              refine gf_RX10_29 (k1 := 124) C kd_117 rfl dX10_carries_124 ?_
              refine zm_iconst (v := 0) C dX10_carries_127 (by decide) ?_
              obtain ⟨hg_23, h⟩ := h
              refine zq_ld_m C kd_124 ln_124 hg_23 dX10_carries_128 ?_
              refine zm_aload_n C dX10_carries_129 rfl 0 rfl ?_
              refine gf_RX10_29 (k1 := 124) C kd_117 rfl dX10_carries_130 ?_
              refine zm_iconst (v := 1) C dX10_carries_133 (by decide) ?_
              obtain ⟨hg_24, h⟩ := h
              refine zq_ld_m C kd_124 ln_124 hg_24 dX10_carries_134 ?_
              refine zm_ci (zr_V (As := [.int (u 124 ((0 : Int32)).toNatClampNeg), .int (u 124 ((1 : Int32)).toNatClampNeg)]) (rest := []) C (c_X10_treads l g U u W (u 124 ((0 : Int32)).toNatClampNeg) (u 124 ((1 : Int32)).toNatClampNeg) h) wd_1212 wd_1214 wp_35 wd_11 wd_1215 hy_X10_treads rfl rfl ⟨by decide, by decide⟩ ⟨by decide, by decide⟩ (ci := 10) (by decide) (zCell_k kd_117) rfl rfl rfl rfl (Nat.le_of_ble_eq_true rfl) dX10_carries_135) (fun r_25 M1 hq => ?_)
              obtain ⟨u_26, rfl, h⟩ := hq
              exact zm_iret C hr dX10_carries_138 ⟨_, rfl, h⟩
            · have h := h.2 hc_22
              by_cases hc_27 : w_1 = (116 : Int32)
              · have h := h.1 hc_27
                refine zm_tableIn (tgt := 173) C dX10_carries_4 (by rw [hc_27]; decide) (by rw [hc_27]; decide) (by rw [hc_27]; rfl) (by decide) ?_
                refine zm_aload_n C dX10_carries_173 rfl 0 rfl ?_
                refine zm_aload_n C dX10_carries_174 rfl 0 rfl ?_
                refine gf_RX10_29 (k1 := 124) C kd_117 rfl dX10_carries_175 ?_
                refine zm_iconst (v := 0) C dX10_carries_178 (by decide) ?_
                obtain ⟨hg_28, h⟩ := h
                refine zq_ld_m C kd_124 ln_124 hg_28 dX10_carries_179 ?_
                refine zm_iconst (v := 1) C dX10_carries_180 (by decide) ?_
                refine zm_ci (zr_V (As := [.int (u 124 ((0 : Int32)).toNatClampNeg), .int (1 : Int32)]) (rest := []) C (c_X10_traps l g U u W (u 124 ((0 : Int32)).toNatClampNeg) (1 : Int32) h) wd_1243 wd_1245 wp_40 wd_11 wd_1246 hy_X10_traps rfl rfl ⟨by decide, by decide⟩ ⟨by decide, by decide⟩ (ci := 10) (by decide) (zCell_k kd_117) rfl rfl rfl rfl (Nat.le_of_ble_eq_true rfl) dX10_carries_181) (fun r_29 M1 hq => ?_)
                obtain ⟨u_30, rfl, h⟩ := hq
                exact zm_iret C hr dX10_carries_184 ⟨_, rfl, h⟩
              · have h := h.2 hc_27
                by_cases hc_31 : w_1 = (117 : Int32)
                · have h := h.1 hc_31
                  refine zm_tableIn (tgt := 117) C dX10_carries_4 (by rw [hc_31]; decide) (by rw [hc_31]; decide) (by rw [hc_31]; rfl) (by decide) ?_
                  refine zm_aload_n C dX10_carries_117 rfl 0 rfl ?_
                  refine zm_ci (zr_V (As := []) (rest := []) C (c_X10_takesBack l g U u W  h) wd_1340 wd_1342 wp_54 wd_11 wd_1343 hy_X10_takesBack rfl rfl ⟨by decide, by decide⟩ ⟨by decide, by decide⟩ (ci := 10) (by decide) (zCell_k kd_117) rfl rfl rfl rfl (Nat.le_of_ble_eq_true rfl) dX10_carries_118) (fun r_32 M1 hq => ?_)
                  obtain ⟨u_33, rfl, h⟩ := hq
                  exact zm_iret C hr dX10_carries_121 ⟨_, rfl, h⟩
                · have h := h.2 hc_31
                  by_cases hc_34 : w_1 = (120 : Int32)
                  · have h := h.1 hc_34
                    refine zm_tableIn (tgt := 139) C dX10_carries_4 (by rw [hc_34]; decide) (by rw [hc_34]; decide) (by rw [hc_34]; rfl) (by decide) ?_
                    refine zm_aload_n C dX10_carries_139 rfl 0 rfl ?_
                    refine zm_aload_n C dX10_carries_140 rfl 0 rfl ?_
                    refine gf_RX10_29 (k1 := 124) C kd_117 rfl dX10_carries_141 ?_
                    refine zm_iconst (v := 0) C dX10_carries_144 (by decide) ?_
                    obtain ⟨hg_35, h⟩ := h
                    refine zq_ld_m C kd_124 ln_124 hg_35 dX10_carries_145 ?_
                    refine zm_aload_n C dX10_carries_146 rfl 0 rfl ?_
                    refine gf_RX10_29 (k1 := 124) C kd_117 rfl dX10_carries_147 ?_
                    refine zm_iconst (v := 1) C dX10_carries_150 (by decide) ?_
                    obtain ⟨hg_36, h⟩ := h
                    refine zq_ld_m C kd_124 ln_124 hg_36 dX10_carries_151 ?_
                    refine zm_ci (zr_V (As := [.int (u 124 ((0 : Int32)).toNatClampNeg), .int (u 124 ((1 : Int32)).toNatClampNeg)]) (rest := []) C (c_X10_grows l g U u W (u 124 ((0 : Int32)).toNatClampNeg) (u 124 ((1 : Int32)).toNatClampNeg) h) wd_1235 wd_1237 wp_39 wd_11 wd_1238 hy_X10_grows rfl rfl ⟨by decide, by decide⟩ ⟨by decide, by decide⟩ (ci := 10) (by decide) (zCell_k kd_117) rfl rfl rfl rfl (Nat.le_of_ble_eq_true rfl) dX10_carries_152) (fun r_37 M1 hq => ?_)
                    obtain ⟨u_38, rfl, h⟩ := hq
                    exact zm_iret C hr dX10_carries_155 ⟨_, rfl, h⟩
                  · have h := h.2 hc_34
                    have n0 := lv_neT (a := 98) hc_2 rfl
                    have n1 := lv_neT (a := 100) hc_6 rfl
                    have n2 := lv_neT (a := 102) hc_9 rfl
                    have n3 := lv_neT (a := 103) hc_13 rfl
                    have n4 := lv_neT (a := 109) hc_17 rfl
                    have n5 := lv_neT (a := 112) hc_22 rfl
                    have n6 := lv_neT (a := 116) hc_27 rfl
                    have n7 := lv_neT (a := 117) hc_31 rfl
                    have n8 := lv_neT (a := 120) hc_34 rfl
                    refine zs_X10_carries_4 C (by omega) ?_
                    refine zm_aload_n C dX10_carries_219 rfl 0 rfl ?_
                    refine zm_aload_n C dX10_carries_220 rfl 0 rfl ?_
                    refine gf_RX10_29 (k1 := 124) C kd_117 rfl dX10_carries_221 ?_
                    refine zm_iconst (v := 0) C dX10_carries_224 (by decide) ?_
                    obtain ⟨hg_39, h⟩ := h
                    refine zq_ld_m C kd_124 ln_124 hg_39 dX10_carries_225 ?_
                    refine zm_ci (zr_V (As := [.int (u 124 ((0 : Int32)).toNatClampNeg)]) (rest := []) C (c_X10_plays l g U u W (u 124 ((0 : Int32)).toNatClampNeg) h) wd_1324 wd_1326 wp_51 wd_11 wd_1327 hy_X10_plays rfl rfl ⟨by decide, by decide⟩ ⟨by decide, by decide⟩ (ci := 10) (by decide) (zCell_k kd_117) rfl rfl rfl rfl (Nat.le_of_ble_eq_true rfl) dX10_carries_226) (fun r_40 M1 hq => ?_)
                    obtain ⟨u_41, rfl, h⟩ := hq
                    exact zm_iret C hr dX10_carries_229 ⟨_, rfl, h⟩
abbrev rm_X10_commands : Room := { frames := 7, cells := 0, slots := 0, locals := 158 }
def wl_X10_commands_162 (Q : Int32 → MU → Prop) : Nat → Int32 → MU → Prop
  | 0, _, _ => False
  | n + 1, x5, u => (((119 : Int32) ≤ x5) → w_X10_raises (2 : Int32) u (fun r_2 u_3 => Q r_2 u_3)) ∧ ((¬ (119 : Int32) ≤ x5) → vp_in x5 119 ∧ (vp_in x5 119 ∧ (∀ u_6, u_6 = u2 u 118 (x5).toNatClampNeg (u 119 (x5).toNatClampNeg) → ∀ x5_7, x5_7 = x5 + (1 : Int32) → wl_X10_commands_162   Q n x5_7 u_6)))
set_option maxHeartbeats 4000000 in
set_option maxRecDepth 100000 in
theorem vl_X10_commands_162 {p : Program} {l : Launch} {e : Env} {s : State} {m : MethodId} {args : Array Value} {below : List Frame} {meth : Method} {c : Code} {g : GE} {U : MU} {W : (Nat → Int64) × (Nat → UInt64)} {Q : Int32 → MU → Prop} (C : zCx p l s m args meth c g RX10 cX10_commands 6) (hr : meth.sig.returnType = (Option.some Jvm.ClassFile.FieldType.int)) : ∀ (n : Nat) (x5 : Int32) (u : MU) , wl_X10_commands_162   Q n x5 u → WM p l e rm_X10_commands s m args below meth c g 6 0 0 (MQ below (zQi g (zPm U W Q)) args s 0 0 (zA g)) 162 [(0, .ref (g.2.2.1 117)), (5, .int x5)] [] (U, u, W) := by
  intro n
  induction n with
  | zero => intro _ _ h; exact h.elim
  | succ n ih =>
    intro x5 u h
    unfold wl_X10_commands_162 at h
    refine zm_iload C dX10_commands_162 1 rfl ?_
    refine zm_bipush (v := 119) C dX10_commands_164 (by decide) ?_
    refine zm_icmp_ge (tgt := 189) C dX10_commands_166 (by decide) (fun hc_1 => ?_) (fun hc_1 => ?_)
    · have h := h.1 hc_1
      refine zm_aload_n C dX10_commands_189 rfl 0 rfl ?_
      refine zm_iconst (v := 2) C dX10_commands_190 (by decide) ?_
      refine zm_ci (zr_V (As := [.int (2 : Int32)]) (rest := []) C (c_X10_raises l g U u W (2 : Int32) h) wd_1204 wd_1206 wp_34 wd_11 wd_1207 hy_X10_raises rfl rfl ⟨by decide, by decide⟩ ⟨by decide, by decide⟩ (ci := 10) (by decide) (zCell_k kd_117) rfl rfl rfl rfl (Nat.le_of_ble_eq_true rfl) dX10_commands_191) (fun r_2 M1 hq => ?_)
      obtain ⟨u_3, rfl, h⟩ := hq
      exact zm_iret C hr dX10_commands_194 ⟨_, rfl, h⟩
    · have h := h.2 hc_1
      refine zm_aload_n C dX10_commands_169 rfl 0 rfl ?_
      refine gf_RX10_9 (k1 := 118) C kd_117 rfl dX10_commands_170 ?_
      refine zm_iload C dX10_commands_173 1 rfl ?_
      refine zm_aload_n C dX10_commands_175 rfl 0 rfl ?_
      refine gf_RX10_13 (k1 := 119) C kd_117 rfl dX10_commands_176 ?_
      refine zm_iload C dX10_commands_179 1 rfl ?_
      obtain ⟨hg_4, h⟩ := h
      refine zq_ld_m C kd_119 ln_119 hg_4 dX10_commands_181 ?_
      obtain ⟨hg_5, h⟩ := h
      refine zq_st_m C kd_118 ln_118 hg_5 dX10_commands_182 (fun u_6 hu_6 => ?_)
      have h := h u_6 hu_6
      obtain ⟨x5_7, hx5_7⟩ : ∃ z, z = x5 + (1 : Int32) := ⟨_, rfl⟩
      have h := h x5_7 hx5_7
      refine zm_iinc (v := x5_7) (lv' := [(5, .int x5_7), (0, .ref (g.2.2.1 117))]) C dX10_commands_183 1 rfl (by rw [hx5_7]; rfl) (by decide) rfl ?_
      refine zm_goto (tgt := 162) C dX10_commands_186 (by decide) ?_
      exact zm_sub [1, 0] rfl (ih _ _ h)
def wb_X10_commands_134 (L94 : Int32 → Int32 → Int32 → MU → Prop) (Q : Int32 → MU → Prop) (x2 : Int32) (x3 : Int32) (s0 : Int32) (u : MU) : Prop := L94 x2 x3 s0 u
set_option maxHeartbeats 4000000 in
set_option maxRecDepth 100000 in
theorem vb_X10_commands_134 {p : Program} {l : Launch} {e : Env} {s : State} {m : MethodId} {args : Array Value} {below : List Frame} {meth : Method} {c : Code} {g : GE} {U : MU} {W : (Nat → Int64) × (Nat → UInt64)} {Q : Int32 → MU → Prop} (C : zCx p l s m args meth c g RX10 cX10_commands 6) (hr : meth.sig.returnType = (Option.some Jvm.ClassFile.FieldType.int)) {L94 : Int32 → Int32 → Int32 → MU → Prop} (hL94 : ∀ (x2 : Int32) (x3 : Int32) (x4 : Int32) (u : MU), L94 x2 x3 x4 u → WM p l e rm_X10_commands s m args below meth c g 6 0 0 (MQ below (zQi g (zPm U W Q)) args s 0 0 (zA g)) 94 [(0, .ref (g.2.2.1 117)), (2, .int x2), (3, .int x3), (4, .int x4)] [] (U, u, W)) (x2 : Int32) (x3 : Int32) (s0 : Int32) (u : MU) (h : wb_X10_commands_134 L94  Q x2 x3 s0 u) : WM p l e rm_X10_commands s m args below meth c g 6 0 0 (MQ below (zQi g (zPm U W Q)) args s 0 0 (zA g)) 134 [(0, .ref (g.2.2.1 117)), (2, .int x2), (3, .int x3)] [.int s0] (U, u, W) := by
  unfold wb_X10_commands_134 at h
  refine zm_istore (lv' := [(4, .int s0), (0, .ref (g.2.2.1 117)), (2, .int x2), (3, .int x3)]) C dX10_commands_134 (by decide) rfl ?_
  refine zm_goto (tgt := 94) C dX10_commands_136 (by decide) ?_
  exact zm_sub [1, 2, 3, 0] rfl (hL94 _ _ _ _ h)
def wb_X10_commands_133 (L94 : Int32 → Int32 → Int32 → MU → Prop) (Q : Int32 → MU → Prop) (x2 : Int32) (x3 : Int32) (u : MU) : Prop := wb_X10_commands_134 L94  Q x2 x3 (0 : Int32) u
set_option maxHeartbeats 4000000 in
set_option maxRecDepth 100000 in
theorem vb_X10_commands_133 {p : Program} {l : Launch} {e : Env} {s : State} {m : MethodId} {args : Array Value} {below : List Frame} {meth : Method} {c : Code} {g : GE} {U : MU} {W : (Nat → Int64) × (Nat → UInt64)} {Q : Int32 → MU → Prop} (C : zCx p l s m args meth c g RX10 cX10_commands 6) (hr : meth.sig.returnType = (Option.some Jvm.ClassFile.FieldType.int)) {L94 : Int32 → Int32 → Int32 → MU → Prop} (hL94 : ∀ (x2 : Int32) (x3 : Int32) (x4 : Int32) (u : MU), L94 x2 x3 x4 u → WM p l e rm_X10_commands s m args below meth c g 6 0 0 (MQ below (zQi g (zPm U W Q)) args s 0 0 (zA g)) 94 [(0, .ref (g.2.2.1 117)), (2, .int x2), (3, .int x3), (4, .int x4)] [] (U, u, W)) (x2 : Int32) (x3 : Int32) (u : MU) (h : wb_X10_commands_133 L94  Q x2 x3 u) : WM p l e rm_X10_commands s m args below meth c g 6 0 0 (MQ below (zQi g (zPm U W Q)) args s 0 0 (zA g)) 133 [(0, .ref (g.2.2.1 117)), (2, .int x2), (3, .int x3)] [] (U, u, W) := by
  unfold wb_X10_commands_133 at h
  refine zm_iconst (v := 0) C dX10_commands_133 (by decide) ?_
  exact zm_sub [0, 1, 2] rfl (vb_X10_commands_134 C hr hL94 _ _ _ _ h)
def wb_X10_commands_116 (L94 : Int32 → Int32 → Int32 → MU → Prop) (Q : Int32 → MU → Prop) (x2 : Int32) (x3 : Int32) (u : MU) : Prop := ((x3 < 0) → wb_X10_commands_133 L94  Q x2 x3 u) ∧ ((¬ x3 < 0) → w_X10_takes (59 : Int32) u (fun r_2 u_3 => ((r_2 = 0) → wb_X10_commands_133 L94  Q x2 x3 u_3) ∧ ((¬ r_2 = 0) → wb_X10_commands_134 L94  Q x2 x3 (1 : Int32) u_3)))
set_option maxHeartbeats 4000000 in
set_option maxRecDepth 100000 in
theorem vb_X10_commands_116 {p : Program} {l : Launch} {e : Env} {s : State} {m : MethodId} {args : Array Value} {below : List Frame} {meth : Method} {c : Code} {g : GE} {U : MU} {W : (Nat → Int64) × (Nat → UInt64)} {Q : Int32 → MU → Prop} (C : zCx p l s m args meth c g RX10 cX10_commands 6) (hr : meth.sig.returnType = (Option.some Jvm.ClassFile.FieldType.int)) {L94 : Int32 → Int32 → Int32 → MU → Prop} (hL94 : ∀ (x2 : Int32) (x3 : Int32) (x4 : Int32) (u : MU), L94 x2 x3 x4 u → WM p l e rm_X10_commands s m args below meth c g 6 0 0 (MQ below (zQi g (zPm U W Q)) args s 0 0 (zA g)) 94 [(0, .ref (g.2.2.1 117)), (2, .int x2), (3, .int x3), (4, .int x4)] [] (U, u, W)) (x2 : Int32) (x3 : Int32) (u : MU) (h : wb_X10_commands_116 L94  Q x2 x3 u) : WM p l e rm_X10_commands s m args below meth c g 6 0 0 (MQ below (zQi g (zPm U W Q)) args s 0 0 (zA g)) 116 [(0, .ref (g.2.2.1 117)), (2, .int x2), (3, .int x3)] [] (U, u, W) := by
  unfold wb_X10_commands_116 at h
  refine zm_iload_n C dX10_commands_116 rfl 2 rfl ?_
  refine zm_if_lt (tgt := 133) C dX10_commands_117 (by decide) (fun hc_1 => ?_) (fun hc_1 => ?_)
  · have h := h.1 hc_1
    exact zm_sub [0, 1, 2] rfl (vb_X10_commands_133 C hr hL94 _ _ _ h)
  · have h := h.2 hc_1
    refine zm_aload_n C dX10_commands_120 rfl 0 rfl ?_
    refine zm_bipush (v := 59) C dX10_commands_121 (by decide) ?_
    refine zm_ci (zr_V (As := [.int (59 : Int32)]) (rest := []) C (c_X10_takes l g U u W (59 : Int32) h) wd_1428 wd_1430 wp_59 wd_11 wd_1431 hy_X10_takes rfl rfl ⟨by decide, by decide⟩ ⟨by decide, by decide⟩ (ci := 10) (by decide) (zCell_k kd_117) rfl rfl rfl rfl (Nat.le_of_ble_eq_true rfl) dX10_commands_123) (fun r_2 M1 hq => ?_)
    obtain ⟨u_3, rfl, h⟩ := hq
    refine zm_if_eq (tgt := 133) C dX10_commands_126 (by decide) (fun hc_4 => ?_) (fun hc_4 => ?_)
    · have h := h.1 hc_4
      exact zm_sub [0, 1, 2] rfl (vb_X10_commands_133 C hr hL94 _ _ _ h)
    · have h := h.2 hc_4
      refine zm_iconst (v := 1) C dX10_commands_129 (by decide) ?_
      refine zm_goto (tgt := 134) C dX10_commands_130 (by decide) ?_
      exact zm_sub [0, 1, 2] rfl (vb_X10_commands_134 C hr hL94 _ _ _ _ h)
def wl_X10_commands_94 (Q : Int32 → MU → Prop) : Nat → Int32 → Int32 → Int32 → MU → Prop
  | 0, _, _, _, _ => False
  | n + 1, x2, x3, x4, u => ((x4 = 0) → (∀ u_2, u_2 = u2 u 117 9 (0 : Int32) → ((x3 < 0) → (∀ u_4, u_4 = u2 u_2 117 16 x2 → ∃ nn, wl_X10_commands_162   Q nn (0 : Int32) u_4)) ∧ ((¬ x3 < 0) → w_X10_keeps x2 u_2 (fun r_5 u_6 => Q r_5 u_6)))) ∧ ((¬ x4 = 0) → w_X10_isCommand  u (fun r_7 u_8 => w_X10_carries  u_8 (fun r_9 u_10 => ((r_9 < 0) → wb_X10_commands_116 (fun x2' x3' x4' u' => wl_X10_commands_94  Q n x2' x3' x4' u')  Q x2 r_9 u_10) ∧ ((¬ r_9 < 0) → ∀ x2_12, x2_12 = x2 + (1 : Int32) → wb_X10_commands_116 (fun x2' x3' x4' u' => wl_X10_commands_94  Q n x2' x3' x4' u')  Q x2_12 r_9 u_10))))
set_option maxHeartbeats 4000000 in
set_option maxRecDepth 100000 in
theorem vl_X10_commands_94 {p : Program} {l : Launch} {e : Env} {s : State} {m : MethodId} {args : Array Value} {below : List Frame} {meth : Method} {c : Code} {g : GE} {U : MU} {W : (Nat → Int64) × (Nat → UInt64)} {Q : Int32 → MU → Prop} (C : zCx p l s m args meth c g RX10 cX10_commands 6) (hr : meth.sig.returnType = (Option.some Jvm.ClassFile.FieldType.int)) : ∀ (n : Nat) (x2 : Int32) (x3 : Int32) (x4 : Int32) (u : MU) , wl_X10_commands_94   Q n x2 x3 x4 u → WM p l e rm_X10_commands s m args below meth c g 6 0 0 (MQ below (zQi g (zPm U W Q)) args s 0 0 (zA g)) 94 [(0, .ref (g.2.2.1 117)), (2, .int x2), (3, .int x3), (4, .int x4)] [] (U, u, W) := by
  intro n
  induction n with
  | zero => intro _ _ _ _ h; exact h.elim
  | succ n ih =>
    intro x2 x3 x4 u h
    unfold wl_X10_commands_94 at h
    refine zm_iload C dX10_commands_94 3 rfl ?_
    refine zm_if_eq (tgt := 139) C dX10_commands_96 (by decide) (fun hc_1 => ?_) (fun hc_1 => ?_)
    · have h := h.1 hc_1
      refine zm_aload_n C dX10_commands_139 rfl 0 rfl ?_
      refine zm_iconst (v := 0) C dX10_commands_140 (by decide) ?_
      refine pf_RX10_204 C kd_117  dX10_commands_141 (fun u_2 hu_2 => ?_)
      have h := h u_2 hu_2
      refine zm_iload_n C dX10_commands_144 rfl 2 rfl ?_
      refine zm_if_lt (tgt := 154) C dX10_commands_145 (by decide) (fun hc_3 => ?_) (fun hc_3 => ?_)
      · have h := h.1 hc_3
        refine zm_aload_n C dX10_commands_154 rfl 0 rfl ?_
        refine zm_iload_n C dX10_commands_155 rfl 1 rfl ?_
        refine pf_RX10_74 C kd_117  dX10_commands_156 (fun u_4 hu_4 => ?_)
        have h := h u_4 hu_4
        refine zm_iconst (v := 0) C dX10_commands_159 (by decide) ?_
        refine zm_istore (lv' := [(5, .int (0 : Int32)), (0, .ref (g.2.2.1 117)), (2, .int x2), (3, .int x3), (4, .int x4)]) C dX10_commands_160 (by decide) rfl ?_
        obtain ⟨nn, h⟩ := h
        exact zm_sub [1, 0] rfl (vl_X10_commands_162 C hr  nn _ _ h)
      · have h := h.2 hc_3
        refine zm_aload_n C dX10_commands_148 rfl 0 rfl ?_
        refine zm_iload_n C dX10_commands_149 rfl 1 rfl ?_
        refine zm_ci (zr_V (As := [.int x2]) (rest := []) C (c_X10_keeps l g U u_2 W x2 h) wd_1200 wd_1202 wp_33 wd_11 wd_1203 hy_X10_keeps rfl rfl ⟨by decide, by decide⟩ ⟨by decide, by decide⟩ (ci := 10) (by decide) (zCell_k kd_117) rfl rfl rfl rfl (Nat.le_of_ble_eq_true rfl) dX10_commands_150) (fun r_5 M1 hq => ?_)
        obtain ⟨u_6, rfl, h⟩ := hq
        exact zm_iret C hr dX10_commands_153 ⟨_, rfl, h⟩
    · have h := h.2 hc_1
      refine zm_aload_n C dX10_commands_99 rfl 0 rfl ?_
      refine zm_ci (zr_V (As := []) (rest := []) C (c_X10_isCommand l g U u W  h) wd_1420 wd_1422 wp_57 wd_11 wd_1423 hy_X10_isCommand rfl rfl ⟨by decide, by decide⟩ ⟨by decide, by decide⟩ (ci := 10) (by decide) (zCell_k kd_117) rfl rfl rfl rfl (Nat.le_of_ble_eq_true rfl) dX10_commands_100) (fun r_7 M1 hq => ?_)
      obtain ⟨u_8, rfl, h⟩ := hq
      refine zm_istore_n (lv' := [(1, .int r_7), (0, .ref (g.2.2.1 117)), (2, .int x2), (3, .int x3), (4, .int x4)]) C dX10_commands_103 rfl (by decide) rfl ?_
      refine zm_aload_n C dX10_commands_104 rfl 1 rfl ?_
      refine zm_ci (zr_V (As := []) (rest := []) C (c_X10_carries l g U u_8 W  h) wd_1432 wd_1434 wp_60 wd_11 wd_1435 hy_X10_carries rfl rfl ⟨by decide, by decide⟩ ⟨by decide, by decide⟩ (ci := 10) (by decide) (zCell_k kd_117) rfl rfl rfl rfl (Nat.le_of_ble_eq_true rfl) dX10_commands_105) (fun r_9 M1 hq => ?_)
      obtain ⟨u_10, rfl, h⟩ := hq
      refine zm_istore_n (lv' := [(3, .int r_9), (1, .int r_7), (0, .ref (g.2.2.1 117)), (2, .int x2), (4, .int x4)]) C dX10_commands_108 rfl (by decide) rfl ?_
      refine zm_iload_n C dX10_commands_109 rfl 0 rfl ?_
      refine zm_if_lt (tgt := 116) C dX10_commands_110 (by decide) (fun hc_11 => ?_) (fun hc_11 => ?_)
      · have h := h.1 hc_11
        exact zm_sub [2, 3, 0] rfl (vb_X10_commands_116 C hr ih _ _ _ h)
      · have h := h.2 hc_11
        obtain ⟨x2_12, hx2_12⟩ : ∃ z, z = x2 + (1 : Int32) := ⟨_, rfl⟩
        have h := h x2_12 hx2_12
        refine zm_iinc (v := x2_12) (lv' := [(2, .int x2_12), (3, .int r_9), (1, .int r_7), (0, .ref (g.2.2.1 117)), (4, .int x4)]) C dX10_commands_113 3 rfl (by rw [hx2_12]; rfl) (by decide) rfl ?_
        exact zm_sub [3, 0, 1] rfl (vb_X10_commands_116 C hr ih _ _ _ h)
def wb_X10_commands_59 (Q : Int32 → MU → Prop) (x1 : Int32) (u : MU) : Prop := ((¬ x1 = 0) → (∀ u_2, u_2 = u2 u 117 10 (0 : Int32) → ∃ nn, wl_X10_commands_94   Q nn (0 : Int32) (0 : Int32) (1 : Int32) u_2)) ∧ ((x1 = 0) → (∀ u_3, u_3 = u2 u 117 13 (u 117 10) → (∀ u_4, u_4 = u2 u_3 117 9 (0 : Int32) → w_X10_raises (1 : Int32) u_4 (fun r_5 u_6 => Q r_5 u_6))))
set_option maxHeartbeats 4000000 in
set_option maxRecDepth 100000 in
theorem vb_X10_commands_59 {p : Program} {l : Launch} {e : Env} {s : State} {m : MethodId} {args : Array Value} {below : List Frame} {meth : Method} {c : Code} {g : GE} {U : MU} {W : (Nat → Int64) × (Nat → UInt64)} {Q : Int32 → MU → Prop} (C : zCx p l s m args meth c g RX10 cX10_commands 6) (hr : meth.sig.returnType = (Option.some Jvm.ClassFile.FieldType.int)) (x1 : Int32) (u : MU) (h : wb_X10_commands_59   Q x1 u) : WM p l e rm_X10_commands s m args below meth c g 6 0 0 (MQ below (zQi g (zPm U W Q)) args s 0 0 (zA g)) 59 [(0, .ref (g.2.2.1 117)), (1, .int x1)] [] (U, u, W) := by
  unfold wb_X10_commands_59 at h
  refine zm_iload_n C dX10_commands_59 rfl 1 rfl ?_
  refine zm_if_ne (tgt := 82) C dX10_commands_60 (by decide) (fun hc_1 => ?_) (fun hc_1 => ?_)
  · have h := h.1 hc_1
    refine zm_aload_n C dX10_commands_82 rfl 0 rfl ?_
    refine zm_iconst (v := 0) C dX10_commands_83 (by decide) ?_
    refine pf_RX10_207 C kd_117  dX10_commands_84 (fun u_2 hu_2 => ?_)
    have h := h u_2 hu_2
    refine zm_iconst (v := 0) C dX10_commands_87 (by decide) ?_
    refine zm_istore_n (lv' := [(2, .int (0 : Int32)), (0, .ref (g.2.2.1 117)), (1, .int x1)]) C dX10_commands_88 rfl (by decide) rfl ?_
    refine zm_iconst (v := 0) C dX10_commands_89 (by decide) ?_
    refine zm_istore_n (lv' := [(3, .int (0 : Int32)), (2, .int (0 : Int32)), (0, .ref (g.2.2.1 117)), (1, .int x1)]) C dX10_commands_90 rfl (by decide) rfl ?_
    refine zm_iconst (v := 1) C dX10_commands_91 (by decide) ?_
    refine zm_istore (lv' := [(4, .int (1 : Int32)), (3, .int (0 : Int32)), (2, .int (0 : Int32)), (0, .ref (g.2.2.1 117)), (1, .int x1)]) C dX10_commands_92 (by decide) rfl ?_
    obtain ⟨nn, h⟩ := h
    exact zm_sub [3, 2, 1, 0] rfl (vl_X10_commands_94 C hr  nn _ _ _ _ h)
  · have h := h.2 hc_1
    refine zm_aload_n C dX10_commands_63 rfl 0 rfl ?_
    refine zm_aload_n C dX10_commands_64 rfl 0 rfl ?_
    refine gf_RX10_207 C kd_117 dX10_commands_65 ?_
    refine pf_RX10_32 C kd_117  dX10_commands_68 (fun u_3 hu_3 => ?_)
    have h := h u_3 hu_3
    refine zm_aload_n C dX10_commands_71 rfl 0 rfl ?_
    refine zm_iconst (v := 0) C dX10_commands_72 (by decide) ?_
    refine pf_RX10_204 C kd_117  dX10_commands_73 (fun u_4 hu_4 => ?_)
    have h := h u_4 hu_4
    refine zm_aload_n C dX10_commands_76 rfl 0 rfl ?_
    refine zm_iconst (v := 1) C dX10_commands_77 (by decide) ?_
    refine zm_ci (zr_V (As := [.int (1 : Int32)]) (rest := []) C (c_X10_raises l g U u_4 W (1 : Int32) h) wd_1204 wd_1206 wp_34 wd_11 wd_1207 hy_X10_raises rfl rfl ⟨by decide, by decide⟩ ⟨by decide, by decide⟩ (ci := 10) (by decide) (zCell_k kd_117) rfl rfl rfl rfl (Nat.le_of_ble_eq_true rfl) dX10_commands_78) (fun r_5 M1 hq => ?_)
    obtain ⟨u_6, rfl, h⟩ := hq
    exact zm_iret C hr dX10_commands_81 ⟨_, rfl, h⟩
def wb_X10_commands_55 (L19 : Int32 → MU → Prop) (Q : Int32 → MU → Prop) (s0 : Int32) (u : MU) : Prop := L19 s0 u
set_option maxHeartbeats 4000000 in
set_option maxRecDepth 100000 in
theorem vb_X10_commands_55 {p : Program} {l : Launch} {e : Env} {s : State} {m : MethodId} {args : Array Value} {below : List Frame} {meth : Method} {c : Code} {g : GE} {U : MU} {W : (Nat → Int64) × (Nat → UInt64)} {Q : Int32 → MU → Prop} (C : zCx p l s m args meth c g RX10 cX10_commands 6) (hr : meth.sig.returnType = (Option.some Jvm.ClassFile.FieldType.int)) {L19 : Int32 → MU → Prop} (hL19 : ∀ (x1 : Int32) (u : MU), L19 x1 u → WM p l e rm_X10_commands s m args below meth c g 6 0 0 (MQ below (zQi g (zPm U W Q)) args s 0 0 (zA g)) 19 [(0, .ref (g.2.2.1 117)), (1, .int x1)] [] (U, u, W)) (s0 : Int32) (u : MU) (h : wb_X10_commands_55 L19  Q s0 u) : WM p l e rm_X10_commands s m args below meth c g 6 0 0 (MQ below (zQi g (zPm U W Q)) args s 0 0 (zA g)) 55 [(0, .ref (g.2.2.1 117))] [.int s0] (U, u, W) := by
  unfold wb_X10_commands_55 at h
  refine zm_istore_n (lv' := [(1, .int s0), (0, .ref (g.2.2.1 117))]) C dX10_commands_55 rfl (by decide) rfl ?_
  refine zm_goto (tgt := 19) C dX10_commands_56 (by decide) ?_
  exact zm_sub [1, 0] rfl (hL19 _ _ h)
def wb_X10_commands_54 (L19 : Int32 → MU → Prop) (Q : Int32 → MU → Prop) (u : MU) : Prop := wb_X10_commands_55 L19  Q (0 : Int32) u
set_option maxHeartbeats 4000000 in
set_option maxRecDepth 100000 in
theorem vb_X10_commands_54 {p : Program} {l : Launch} {e : Env} {s : State} {m : MethodId} {args : Array Value} {below : List Frame} {meth : Method} {c : Code} {g : GE} {U : MU} {W : (Nat → Int64) × (Nat → UInt64)} {Q : Int32 → MU → Prop} (C : zCx p l s m args meth c g RX10 cX10_commands 6) (hr : meth.sig.returnType = (Option.some Jvm.ClassFile.FieldType.int)) {L19 : Int32 → MU → Prop} (hL19 : ∀ (x1 : Int32) (u : MU), L19 x1 u → WM p l e rm_X10_commands s m args below meth c g 6 0 0 (MQ below (zQi g (zPm U W Q)) args s 0 0 (zA g)) 19 [(0, .ref (g.2.2.1 117)), (1, .int x1)] [] (U, u, W)) (u : MU) (h : wb_X10_commands_54 L19  Q  u) : WM p l e rm_X10_commands s m args below meth c g 6 0 0 (MQ below (zQi g (zPm U W Q)) args s 0 0 (zA g)) 54 [(0, .ref (g.2.2.1 117))] [] (U, u, W) := by
  unfold wb_X10_commands_54 at h
  refine zm_iconst (v := 0) C dX10_commands_54 (by decide) ?_
  exact zm_sub [0] rfl (vb_X10_commands_55 C hr hL19 _ _ h)
def wl_X10_commands_19 (Q : Int32 → MU → Prop) : Nat → Int32 → MU → Prop
  | 0, _, _ => False
  | n + 1, x1, u => ((x1 = 0) → wb_X10_commands_59   Q x1 u) ∧ ((¬ x1 = 0) → (((u 117 9) ≤ (u 117 10)) → wb_X10_commands_59   Q x1 u) ∧ ((¬ (u 117 9) ≤ (u 117 10)) → w_X10_takes (59 : Int32) u (fun r_3 u_4 => ((r_3 = 0) → wb_X10_commands_54 (fun x1' u' => wl_X10_commands_19  Q n x1' u')  Q u_4) ∧ ((¬ r_3 = 0) → w_X10_isCommand  u_4 (fun r_6 u_7 => ((r_6 = 0) → wb_X10_commands_54 (fun x1' u' => wl_X10_commands_19  Q n x1' u')  Q u_7) ∧ ((¬ r_6 = 0) → wb_X10_commands_55 (fun x1' u' => wl_X10_commands_19  Q n x1' u')  Q (1 : Int32) u_7))))))
set_option maxHeartbeats 4000000 in
set_option maxRecDepth 100000 in
theorem vl_X10_commands_19 {p : Program} {l : Launch} {e : Env} {s : State} {m : MethodId} {args : Array Value} {below : List Frame} {meth : Method} {c : Code} {g : GE} {U : MU} {W : (Nat → Int64) × (Nat → UInt64)} {Q : Int32 → MU → Prop} (C : zCx p l s m args meth c g RX10 cX10_commands 6) (hr : meth.sig.returnType = (Option.some Jvm.ClassFile.FieldType.int)) : ∀ (n : Nat) (x1 : Int32) (u : MU) , wl_X10_commands_19   Q n x1 u → WM p l e rm_X10_commands s m args below meth c g 6 0 0 (MQ below (zQi g (zPm U W Q)) args s 0 0 (zA g)) 19 [(0, .ref (g.2.2.1 117)), (1, .int x1)] [] (U, u, W) := by
  intro n
  induction n with
  | zero => intro _ _ h; exact h.elim
  | succ n ih =>
    intro x1 u h
    unfold wl_X10_commands_19 at h
    refine zm_iload_n C dX10_commands_19 rfl 1 rfl ?_
    refine zm_if_eq (tgt := 59) C dX10_commands_20 (by decide) (fun hc_1 => ?_) (fun hc_1 => ?_)
    · have h := h.1 hc_1
      exact zm_sub [0, 1] rfl (vb_X10_commands_59 C hr  _ _ h)
    · have h := h.2 hc_1
      refine zm_aload_n C dX10_commands_23 rfl 0 rfl ?_
      refine gf_RX10_207 C kd_117 dX10_commands_24 ?_
      refine zm_aload_n C dX10_commands_27 rfl 0 rfl ?_
      refine gf_RX10_204 C kd_117 dX10_commands_28 ?_
      refine zm_icmp_ge (tgt := 59) C dX10_commands_31 (by decide) (fun hc_2 => ?_) (fun hc_2 => ?_)
      · have h := h.1 hc_2
        exact zm_sub [0, 1] rfl (vb_X10_commands_59 C hr  _ _ h)
      · have h := h.2 hc_2
        refine zm_aload_n C dX10_commands_34 rfl 0 rfl ?_
        refine zm_bipush (v := 59) C dX10_commands_35 (by decide) ?_
        refine zm_ci (zr_V (As := [.int (59 : Int32)]) (rest := []) C (c_X10_takes l g U u W (59 : Int32) h) wd_1428 wd_1430 wp_59 wd_11 wd_1431 hy_X10_takes rfl rfl ⟨by decide, by decide⟩ ⟨by decide, by decide⟩ (ci := 10) (by decide) (zCell_k kd_117) rfl rfl rfl rfl (Nat.le_of_ble_eq_true rfl) dX10_commands_37) (fun r_3 M1 hq => ?_)
        obtain ⟨u_4, rfl, h⟩ := hq
        refine zm_if_eq (tgt := 54) C dX10_commands_40 (by decide) (fun hc_5 => ?_) (fun hc_5 => ?_)
        · have h := h.1 hc_5
          exact zm_sub [0] rfl (vb_X10_commands_54 C hr ih _ h)
        · have h := h.2 hc_5
          refine zm_aload_n C dX10_commands_43 rfl 0 rfl ?_
          refine zm_ci (zr_V (As := []) (rest := []) C (c_X10_isCommand l g U u_4 W  h) wd_1420 wd_1422 wp_57 wd_11 wd_1423 hy_X10_isCommand rfl rfl ⟨by decide, by decide⟩ ⟨by decide, by decide⟩ (ci := 10) (by decide) (zCell_k kd_117) rfl rfl rfl rfl (Nat.le_of_ble_eq_true rfl) dX10_commands_44) (fun r_6 M1 hq => ?_)
          obtain ⟨u_7, rfl, h⟩ := hq
          refine zm_if_eq (tgt := 54) C dX10_commands_47 (by decide) (fun hc_8 => ?_) (fun hc_8 => ?_)
          · have h := h.1 hc_8
            exact zm_sub [0] rfl (vb_X10_commands_54 C hr ih _ h)
          · have h := h.2 hc_8
            refine zm_iconst (v := 1) C dX10_commands_50 (by decide) ?_
            refine zm_goto (tgt := 55) C dX10_commands_51 (by decide) ?_
            exact zm_sub [0] rfl (vb_X10_commands_55 C hr ih _ _ h)
def w_X10_commands (u : MU) (Q : Int32 → MU → Prop) : Prop := w_X10_tries  u (fun u_2 => (∀ u_3, u_3 = u2 u_2 117 10 (0 : Int32) → (∀ u_4, u_4 = u2 u_3 117 13 (-1 : Int32) → w_X10_isCommand  u_4 (fun r_5 u_6 => ∃ nn, wl_X10_commands_19   Q nn r_5 u_6))))
set_option maxHeartbeats 4000000 in
set_option maxRecDepth 100000 in
theorem c_X10_commands (l : Launch) (g : GE) (U : MU) (u : MU) (W : (Nat → Int64) × (Nat → UInt64)) {Q : Int32 → MU → Prop} (h : w_X10_commands u Q) : Met l yX10_commands (.code yX10_commands cX10_commands 6 (Option.some Jvm.ClassFile.FieldType.int) :: TB) rm_X10_commands (zPc g (U, u, W) [.ref (g.2.2.1 117)]) (zQi g (zPm U W Q)) 0 0 (zA g) := by
  unfold w_X10_commands at h
  refine zMet (own := RX10) [(0, .ref (g.2.2.1 117))] (by decide +kernel) rfl (Nat.le_of_ble_eq_true rfl) rfl (fun p e s m args below meth c C hr => ?_)
  refine zm_aload_n C dX10_commands_0 rfl 0 rfl ?_
  refine zm_cv (zr_V (As := []) (rest := []) C (c_X10_tries l g U u W  h) wd_1184 wd_1186 wp_29 wd_11 wd_1187 hy_X10_tries rfl rfl ⟨by decide, by decide⟩ ⟨by decide, by decide⟩ (ci := 10) (by decide) (zCell_k kd_117) rfl rfl rfl rfl (Nat.le_of_ble_eq_true rfl) dX10_commands_1) (fun M1 hq => ?_)
  obtain ⟨u_2, rfl, h⟩ := hq
  refine zm_aload_n C dX10_commands_4 rfl 0 rfl ?_
  refine zm_iconst (v := 0) C dX10_commands_5 (by decide) ?_
  refine pf_RX10_207 C kd_117  dX10_commands_6 (fun u_3 hu_3 => ?_)
  have h := h u_3 hu_3
  refine zm_aload_n C dX10_commands_9 rfl 0 rfl ?_
  refine zm_iconst (v := -1) C dX10_commands_10 (by decide) ?_
  refine pf_RX10_32 C kd_117  dX10_commands_11 (fun u_4 hu_4 => ?_)
  have h := h u_4 hu_4
  refine zm_aload_n C dX10_commands_14 rfl 0 rfl ?_
  refine zm_ci (zr_V (As := []) (rest := []) C (c_X10_isCommand l g U u_4 W  h) wd_1420 wd_1422 wp_57 wd_11 wd_1423 hy_X10_isCommand rfl rfl ⟨by decide, by decide⟩ ⟨by decide, by decide⟩ (ci := 10) (by decide) (zCell_k kd_117) rfl rfl rfl rfl (Nat.le_of_ble_eq_true rfl) dX10_commands_15) (fun r_5 M1 hq => ?_)
  obtain ⟨u_6, rfl, h⟩ := hq
  refine zm_istore_n (lv' := [(1, .int r_5), (0, .ref (g.2.2.1 117))]) C dX10_commands_18 rfl (by decide) rfl ?_
  obtain ⟨nn, h⟩ := h
  exact zm_sub [1, 0] rfl (vl_X10_commands_19 C hr  nn _ _ h)
abbrev rm_X10_faultPosition : Room := { frames := 0, cells := 0, slots := 0, locals := 0 }
def w_X10_faultPosition (u : MU) (Q : Int32 → MU → Prop) : Prop := (∀ u_1, u_1 = u2 u 117 17 (0 : Int32) → Q (u_1 117 13) u_1)
set_option maxHeartbeats 4000000 in
set_option maxRecDepth 100000 in
theorem c_X10_faultPosition (l : Launch) (g : GE) (U : MU) (u : MU) (W : (Nat → Int64) × (Nat → UInt64)) {Q : Int32 → MU → Prop} (h : w_X10_faultPosition u Q) : Met l yX10_faultPosition (.code yX10_faultPosition cX10_faultPosition 1 (Option.some Jvm.ClassFile.FieldType.int) :: TB) rm_X10_faultPosition (zPc g (U, u, W) [.ref (g.2.2.1 117)]) (zQi g (zPm U W Q)) 0 0 (zA g) := by
  unfold w_X10_faultPosition at h
  refine zMet (own := RX10) [(0, .ref (g.2.2.1 117))] (by decide +kernel) rfl (Nat.le_of_ble_eq_true rfl) rfl (fun p e s m args below meth c C hr => ?_)
  refine zm_aload_n C dX10_faultPosition_0 rfl 0 rfl ?_
  refine zm_iconst (v := 0) C dX10_faultPosition_1 (by decide) ?_
  refine pf_RX10_54 C kd_117  dX10_faultPosition_2 (fun u_1 hu_1 => ?_)
  have h := h u_1 hu_1
  refine zm_aload_n C dX10_faultPosition_5 rfl 0 rfl ?_
  refine gf_RX10_32 C kd_117 dX10_faultPosition_6 ?_
  exact zm_iret C hr dX10_faultPosition_9 ⟨_, rfl, h⟩
abbrev rm_X10_reason : Room := { frames := 1, cells := 0, slots := 0, locals := 22 }
def w_X10_reason (x1 : Int32) (u : MU) (Q : Int32 → MU → Prop) : Prop := (∀ u_1, u_1 = u2 u 117 17 (0 : Int32) → w_X10_in x1 (0 : Int32) (2 : Int32) (fun r_2 => ((¬ r_2 = 0) → ((¬ (u_1 117 14) = 0) → ((¬ x1 = 0) → ((¬ x1 = (1 : Int32)) → Q (u_1 117 16) u_1) ∧ ((x1 = (1 : Int32)) → Q (u_1 117 15) u_1)) ∧ ((x1 = 0) → Q (u_1 117 14) u_1)) ∧ (((u_1 117 14) = 0) → w_X10_raises (2 : Int32) u_1 (fun r_8 u_9 => Q r_8 u_9))) ∧ ((r_2 = 0) → w_X10_raises (1 : Int32) u_1 (fun r_10 u_11 => Q r_10 u_11))))
set_option maxHeartbeats 4000000 in
set_option maxRecDepth 100000 in
theorem c_X10_reason (l : Launch) (g : GE) (U : MU) (u : MU) (W : (Nat → Int64) × (Nat → UInt64)) (x1 : Int32) {Q : Int32 → MU → Prop} (h : w_X10_reason x1 u Q) : Met l yX10_reason (.code yX10_reason cX10_reason 2 (Option.some Jvm.ClassFile.FieldType.int) :: TB) rm_X10_reason (zPc g (U, u, W) [.ref (g.2.2.1 117), .int x1]) (zQi g (zPm U W Q)) 0 0 (zA g) := by
  unfold w_X10_reason at h
  refine zMet (own := RX10) [(0, .ref (g.2.2.1 117)), (1, .int x1)] (by decide +kernel) rfl (Nat.le_of_ble_eq_true rfl) rfl (fun p e s m args below meth c C hr => ?_)
  refine zm_aload_n C dX10_reason_0 rfl 0 rfl ?_
  refine zm_iconst (v := 0) C dX10_reason_1 (by decide) ?_
  refine pf_RX10_54 C kd_117  dX10_reason_2 (fun u_1 hu_1 => ?_)
  have h := h u_1 hu_1
  refine zm_iload_n C dX10_reason_5 rfl 1 rfl ?_
  refine zm_iconst (v := 0) C dX10_reason_6 (by decide) ?_
  refine zm_iconst (v := 2) C dX10_reason_7 (by decide) ?_
  refine zm_ci (zr_S (As := [.int x1, .int (0 : Int32), .int (2 : Int32)]) (rest := []) C (c_X10_in l g (U, u_1, W) x1 (0 : Int32) (2 : Int32) h) wd_1224 wd_1225 wd_11 wd_1226 hy_X10_in rfl rfl ⟨by decide, by decide⟩ ⟨by decide, by decide⟩ rfl rfl (Nat.le_of_ble_eq_true rfl) dX10_reason_8) (fun r_2 M1 hq => ?_)
  obtain ⟨rfl, h⟩ := hq
  refine zm_if_ne (tgt := 20) C dX10_reason_11 (by decide) (fun hc_4 => ?_) (fun hc_4 => ?_)
  · have h := h.1 hc_4
    refine zm_aload_n C dX10_reason_20 rfl 0 rfl ?_
    refine gf_RX10_68 C kd_117 dX10_reason_21 ?_
    refine zm_if_ne (tgt := 33) C dX10_reason_24 (by decide) (fun hc_5 => ?_) (fun hc_5 => ?_)
    · have h := h.1 hc_5
      refine zm_iload_n C dX10_reason_33 rfl 1 rfl ?_
      refine zm_if_ne (tgt := 44) C dX10_reason_34 (by decide) (fun hc_6 => ?_) (fun hc_6 => ?_)
      · have h := h.1 hc_6
        refine zm_iload_n C dX10_reason_44 rfl 1 rfl ?_
        refine zm_iconst (v := 1) C dX10_reason_45 (by decide) ?_
        refine zm_icmp_ne (tgt := 56) C dX10_reason_46 (by decide) (fun hc_7 => ?_) (fun hc_7 => ?_)
        · have h := h.1 hc_7
          refine zm_aload_n C dX10_reason_56 rfl 0 rfl ?_
          refine gf_RX10_74 C kd_117 dX10_reason_57 ?_
          exact zm_iret C hr dX10_reason_60 ⟨_, rfl, h⟩
        · have h := h.2 hc_7
          refine zm_aload_n C dX10_reason_49 rfl 0 rfl ?_
          refine gf_RX10_71 C kd_117 dX10_reason_50 ?_
          refine zm_goto (tgt := 60) C dX10_reason_53 (by decide) ?_
          exact zm_iret C hr dX10_reason_60 ⟨_, rfl, h⟩
      · have h := h.2 hc_6
        refine zm_aload_n C dX10_reason_37 rfl 0 rfl ?_
        refine gf_RX10_68 C kd_117 dX10_reason_38 ?_
        refine zm_goto (tgt := 60) C dX10_reason_41 (by decide) ?_
        exact zm_iret C hr dX10_reason_60 ⟨_, rfl, h⟩
    · have h := h.2 hc_5
      refine zm_aload_n C dX10_reason_27 rfl 0 rfl ?_
      refine zm_iconst (v := 2) C dX10_reason_28 (by decide) ?_
      refine zm_ci (zr_V (As := [.int (2 : Int32)]) (rest := []) C (c_X10_raises l g U u_1 W (2 : Int32) h) wd_1204 wd_1206 wp_34 wd_11 wd_1207 hy_X10_raises rfl rfl ⟨by decide, by decide⟩ ⟨by decide, by decide⟩ (ci := 10) (by decide) (zCell_k kd_117) rfl rfl rfl rfl (Nat.le_of_ble_eq_true rfl) dX10_reason_29) (fun r_8 M1 hq => ?_)
      obtain ⟨u_9, rfl, h⟩ := hq
      exact zm_iret C hr dX10_reason_32 ⟨_, rfl, h⟩
  · have h := h.2 hc_4
    refine zm_aload_n C dX10_reason_14 rfl 0 rfl ?_
    refine zm_iconst (v := 1) C dX10_reason_15 (by decide) ?_
    refine zm_ci (zr_V (As := [.int (1 : Int32)]) (rest := []) C (c_X10_raises l g U u_1 W (1 : Int32) h) wd_1204 wd_1206 wp_34 wd_11 wd_1207 hy_X10_raises rfl rfl ⟨by decide, by decide⟩ ⟨by decide, by decide⟩ (ci := 10) (by decide) (zCell_k kd_117) rfl rfl rfl rfl (Nat.le_of_ble_eq_true rfl) dX10_reason_16) (fun r_10 M1 hq => ?_)
    obtain ⟨u_11, rfl, h⟩ := hq
    exact zm_iret C hr dX10_reason_19 ⟨_, rfl, h⟩
abbrev rm_X10_line : Room := { frames := 1, cells := 0, slots := 0, locals := 20 }
def wb_X10_line_113 (L12 : Int32 → MU → Prop) (Q : Int32 → MU → Prop) (x1 : Int32) (s0 : Int32) (s1 : Int32) (u : MU) : Prop := vp_in s1 200 ∧ (∀ u_2, u_2 = u2 u 122 (s1).toNatClampNeg (vp_nar .char s0) → (∀ u_3, u_3 = u2 u_2 117 7 ((u_2 117 7) + (1 : Int32)) → vp_in ((79 : Int32) + x1) 119 ∧ (vp_in (u_2 117 7) 200 ∧ (∀ u_6, u_6 = u2 u_3 122 ((u_2 117 7)).toNatClampNeg (vp_nar .char (((48 : Int32) + ((u_3 118 (((79 : Int32) + x1)).toNatClampNeg) - (u_3 118 (((79 : Int32) + x1)).toNatClampNeg) / (8 : Int32) * (8 : Int32))).toUInt32 % 65536).toInt32) → ∀ x1_7, x1_7 = x1 + (1 : Int32) → L12 x1_7 u_6))))
set_option maxHeartbeats 4000000 in
set_option maxRecDepth 100000 in
theorem vb_X10_line_113 {p : Program} {l : Launch} {e : Env} {s : State} {m : MethodId} {args : Array Value} {below : List Frame} {meth : Method} {c : Code} {g : GE} {U : MU} {W : (Nat → Int64) × (Nat → UInt64)} {Q : Int32 → MU → Prop} (C : zCx p l s m args meth c g RX10 cX10_line 2) (hr : meth.sig.returnType = (Option.some Jvm.ClassFile.FieldType.int)) {L12 : Int32 → MU → Prop} (hL12 : ∀ (x1 : Int32) (u : MU), L12 x1 u → WM p l e rm_X10_line s m args below meth c g 2 0 0 (MQ below (zQi g (zPm U W Q)) args s 0 0 (zA g)) 12 [(0, .ref (g.2.2.1 117)), (1, .int x1)] [] (U, u, W)) (x1 : Int32) (s0 : Int32) (s1 : Int32) (u : MU) (h : wb_X10_line_113 L12  Q x1 s0 s1 u) : WM p l e rm_X10_line s m args below meth c g 2 0 0 (MQ below (zQi g (zPm U W Q)) args s 0 0 (zA g)) 113 [(0, .ref (g.2.2.1 117)), (1, .int x1)] [.int s0, .int s1, .ref (g.2.2.1 122)] (U, u, W) := by
  unfold wb_X10_line_113 at h
  obtain ⟨hg_1, h⟩ := h
  refine zq_st_mc C kd_122 ln_122 hg_1 dX10_line_113 (fun u_2 hu_2 => ?_)
  have h := h u_2 hu_2
  refine zm_aload_n C dX10_line_114 rfl 0 rfl ?_
  refine gf_RX10_22 (k1 := 122) C kd_117 rfl dX10_line_115 ?_
  refine zm_aload_n C dX10_line_118 rfl 0 rfl ?_
  refine zm_dup C dX10_line_119 rfl ?_
  refine gf_RX10_229 C kd_117 dX10_line_120 ?_
  refine zm_dup_x1 C dX10_line_123 rfl rfl ?_
  refine zm_iconst (v := 1) C dX10_line_124 (by decide) ?_
  refine zm_iadd C dX10_line_125 ?_
  refine pf_RX10_229 C kd_117  dX10_line_126 (fun u_3 hu_3 => ?_)
  have h := h u_3 hu_3
  refine zm_bipush (v := 48) C dX10_line_129 (by decide) ?_
  refine zm_aload_n C dX10_line_131 rfl 0 rfl ?_
  refine gf_RX10_9 (k1 := 118) C kd_117 rfl dX10_line_132 ?_
  refine zm_bipush (v := 79) C dX10_line_135 (by decide) ?_
  refine zm_iload_n C dX10_line_137 rfl 1 rfl ?_
  refine zm_iadd C dX10_line_138 ?_
  obtain ⟨hg_4, h⟩ := h
  refine zq_ld_m C kd_118 ln_118 hg_4 dX10_line_139 ?_
  refine zm_bipush (v := 8) C dX10_line_140 (by decide) ?_
  refine zm_irem C dX10_line_142 (by decide) ?_
  refine zm_iadd C dX10_line_143 ?_
  refine zm_i2c C dX10_line_144 ?_
  obtain ⟨hg_5, h⟩ := h
  refine zq_st_mc C kd_122 ln_122 hg_5 dX10_line_145 (fun u_6 hu_6 => ?_)
  have h := h u_6 hu_6
  obtain ⟨x1_7, hx1_7⟩ : ∃ z, z = x1 + (1 : Int32) := ⟨_, rfl⟩
  have h := h x1_7 hx1_7
  refine zm_iinc (v := x1_7) (lv' := [(1, .int x1_7), (0, .ref (g.2.2.1 117))]) C dX10_line_146 1 rfl (by rw [hx1_7]; rfl) (by decide) rfl ?_
  refine zm_goto (tgt := 12) C dX10_line_149 (by decide) ?_
  exact zm_sub [1, 0] rfl (hL12 _ _ h)
def wb_X10_line_44 (L12 : Int32 → MU → Prop) (Q : Int32 → MU → Prop) (x1 : Int32) (u : MU) : Prop := (∀ u_1, u_1 = u2 u 117 7 ((u 117 7) + (1 : Int32)) → vp_in ((79 : Int32) + x1) 119 ∧ (vp_in (u 117 7) 200 ∧ (∀ u_4, u_4 = u2 u_1 122 ((u 117 7)).toNatClampNeg (vp_nar .char (((48 : Int32) + ((u_1 118 (((79 : Int32) + x1)).toNatClampNeg) / (8 : Int32))).toUInt32 % 65536).toInt32) → (∀ u_5, u_5 = u2 u_4 117 7 ((u_4 117 7) + (1 : Int32)) → vp_in ((39 : Int32) + x1) 119 ∧ (w_X10_isGeese (u_5 118 (((39 : Int32) + x1)).toNatClampNeg) (fun r_7 => ((r_7 = 0) → wb_X10_line_113 L12  Q x1 (102 : Int32) (u_4 117 7) u_5) ∧ ((¬ r_7 = 0) → wb_X10_line_113 L12  Q x1 (103 : Int32) (u_4 117 7) u_5)))))))
set_option maxHeartbeats 4000000 in
set_option maxRecDepth 100000 in
theorem vb_X10_line_44 {p : Program} {l : Launch} {e : Env} {s : State} {m : MethodId} {args : Array Value} {below : List Frame} {meth : Method} {c : Code} {g : GE} {U : MU} {W : (Nat → Int64) × (Nat → UInt64)} {Q : Int32 → MU → Prop} (C : zCx p l s m args meth c g RX10 cX10_line 2) (hr : meth.sig.returnType = (Option.some Jvm.ClassFile.FieldType.int)) {L12 : Int32 → MU → Prop} (hL12 : ∀ (x1 : Int32) (u : MU), L12 x1 u → WM p l e rm_X10_line s m args below meth c g 2 0 0 (MQ below (zQi g (zPm U W Q)) args s 0 0 (zA g)) 12 [(0, .ref (g.2.2.1 117)), (1, .int x1)] [] (U, u, W)) (x1 : Int32) (u : MU) (h : wb_X10_line_44 L12  Q x1 u) : WM p l e rm_X10_line s m args below meth c g 2 0 0 (MQ below (zQi g (zPm U W Q)) args s 0 0 (zA g)) 44 [(0, .ref (g.2.2.1 117)), (1, .int x1)] [] (U, u, W) := by
  unfold wb_X10_line_44 at h
  refine zm_aload_n C dX10_line_44 rfl 0 rfl ?_
  refine gf_RX10_22 (k1 := 122) C kd_117 rfl dX10_line_45 ?_
  refine zm_aload_n C dX10_line_48 rfl 0 rfl ?_
  refine zm_dup C dX10_line_49 rfl ?_
  refine gf_RX10_229 C kd_117 dX10_line_50 ?_
  refine zm_dup_x1 C dX10_line_53 rfl rfl ?_
  refine zm_iconst (v := 1) C dX10_line_54 (by decide) ?_
  refine zm_iadd C dX10_line_55 ?_
  refine pf_RX10_229 C kd_117  dX10_line_56 (fun u_1 hu_1 => ?_)
  have h := h u_1 hu_1
  refine zm_bipush (v := 48) C dX10_line_59 (by decide) ?_
  refine zm_aload_n C dX10_line_61 rfl 0 rfl ?_
  refine gf_RX10_9 (k1 := 118) C kd_117 rfl dX10_line_62 ?_
  refine zm_bipush (v := 79) C dX10_line_65 (by decide) ?_
  refine zm_iload_n C dX10_line_67 rfl 1 rfl ?_
  refine zm_iadd C dX10_line_68 ?_
  obtain ⟨hg_2, h⟩ := h
  refine zq_ld_m C kd_118 ln_118 hg_2 dX10_line_69 ?_
  refine zm_bipush (v := 8) C dX10_line_70 (by decide) ?_
  refine zm_idiv C dX10_line_72 (by decide) ?_
  refine zm_iadd C dX10_line_73 ?_
  refine zm_i2c C dX10_line_74 ?_
  obtain ⟨hg_3, h⟩ := h
  refine zq_st_mc C kd_122 ln_122 hg_3 dX10_line_75 (fun u_4 hu_4 => ?_)
  have h := h u_4 hu_4
  refine zm_aload_n C dX10_line_76 rfl 0 rfl ?_
  refine gf_RX10_22 (k1 := 122) C kd_117 rfl dX10_line_77 ?_
  refine zm_aload_n C dX10_line_80 rfl 0 rfl ?_
  refine zm_dup C dX10_line_81 rfl ?_
  refine gf_RX10_229 C kd_117 dX10_line_82 ?_
  refine zm_dup_x1 C dX10_line_85 rfl rfl ?_
  refine zm_iconst (v := 1) C dX10_line_86 (by decide) ?_
  refine zm_iadd C dX10_line_87 ?_
  refine pf_RX10_229 C kd_117  dX10_line_88 (fun u_5 hu_5 => ?_)
  have h := h u_5 hu_5
  refine zm_aload_n C dX10_line_91 rfl 0 rfl ?_
  refine gf_RX10_9 (k1 := 118) C kd_117 rfl dX10_line_92 ?_
  refine zm_bipush (v := 39) C dX10_line_95 (by decide) ?_
  refine zm_iload_n C dX10_line_97 rfl 1 rfl ?_
  refine zm_iadd C dX10_line_98 ?_
  obtain ⟨hg_6, h⟩ := h
  refine zq_ld_m C kd_118 ln_118 hg_6 dX10_line_99 ?_
  refine zm_ci (zr_S (As := [.int (u_5 118 (((39 : Int32) + x1)).toNatClampNeg)]) (rest := [.int (u_4 117 7), .ref (g.2.2.1 122)]) C (c_X10_isGeese l g (U, u_5, W) (u_5 118 (((39 : Int32) + x1)).toNatClampNeg) h) wd_1293 wd_1294 wd_11 wd_1295 hy_X10_isGeese rfl rfl ⟨by decide, by decide⟩ ⟨by decide, by decide⟩ rfl rfl (Nat.le_of_ble_eq_true rfl) dX10_line_100) (fun r_7 M1 hq => ?_)
  obtain ⟨rfl, h⟩ := hq
  refine zm_if_eq (tgt := 111) C dX10_line_103 (by decide) (fun hc_9 => ?_) (fun hc_9 => ?_)
  · have h := h.1 hc_9
    refine zm_bipush (v := 102) C dX10_line_111 (by decide) ?_
    exact zm_sub [0, 1] rfl (vb_X10_line_113 C hr hL12 _ _ _ _ h)
  · have h := h.2 hc_9
    refine zm_bipush (v := 103) C dX10_line_106 (by decide) ?_
    refine zm_goto (tgt := 113) C dX10_line_108 (by decide) ?_
    exact zm_sub [0, 1] rfl (vb_X10_line_113 C hr hL12 _ _ _ _ h)
def wl_X10_line_12 (Q : Int32 → MU → Prop) : Nat → Int32 → MU → Prop
  | 0, _, _ => False
  | n + 1, x1, u => vp_in (5 : Int32) 119 ∧ ((((u 118 ((5 : Int32)).toNatClampNeg) ≤ x1) → Q (u 117 7) u) ∧ ((¬ (u 118 ((5 : Int32)).toNatClampNeg) ≤ x1) → ((x1 ≤ 0) → wb_X10_line_44 (fun x1' u' => wl_X10_line_12  Q n x1' u')  Q x1 u) ∧ ((¬ x1 ≤ 0) → (∀ u_4, u_4 = u2 u 117 7 ((u 117 7) + (1 : Int32)) → vp_in (u 117 7) 200 ∧ (∀ u_6, u_6 = u2 u_4 122 ((u 117 7)).toNatClampNeg (vp_nar .char (32 : Int32)) → wb_X10_line_44 (fun x1' u' => wl_X10_line_12  Q n x1' u')  Q x1 u_6)))))
set_option maxHeartbeats 4000000 in
set_option maxRecDepth 100000 in
theorem vl_X10_line_12 {p : Program} {l : Launch} {e : Env} {s : State} {m : MethodId} {args : Array Value} {below : List Frame} {meth : Method} {c : Code} {g : GE} {U : MU} {W : (Nat → Int64) × (Nat → UInt64)} {Q : Int32 → MU → Prop} (C : zCx p l s m args meth c g RX10 cX10_line 2) (hr : meth.sig.returnType = (Option.some Jvm.ClassFile.FieldType.int)) : ∀ (n : Nat) (x1 : Int32) (u : MU) , wl_X10_line_12   Q n x1 u → WM p l e rm_X10_line s m args below meth c g 2 0 0 (MQ below (zQi g (zPm U W Q)) args s 0 0 (zA g)) 12 [(0, .ref (g.2.2.1 117)), (1, .int x1)] [] (U, u, W) := by
  intro n
  induction n with
  | zero => intro _ _ h; exact h.elim
  | succ n ih =>
    intro x1 u h
    unfold wl_X10_line_12 at h
    refine zm_iload_n C dX10_line_12 rfl 1 rfl ?_
    refine zm_aload_n C dX10_line_13 rfl 0 rfl ?_
    refine gf_RX10_9 (k1 := 118) C kd_117 rfl dX10_line_14 ?_
    refine zm_iconst (v := 5) C dX10_line_17 (by decide) ?_
    obtain ⟨hg_1, h⟩ := h
    refine zq_ld_m C kd_118 ln_118 hg_1 dX10_line_18 ?_
    refine zm_icmp_ge (tgt := 152) C dX10_line_19 (by decide) (fun hc_2 => ?_) (fun hc_2 => ?_)
    · have h := h.1 hc_2
      refine zm_aload_n C dX10_line_152 rfl 0 rfl ?_
      refine gf_RX10_229 C kd_117 dX10_line_153 ?_
      exact zm_iret C hr dX10_line_156 ⟨_, rfl, h⟩
    · have h := h.2 hc_2
      refine zm_iload_n C dX10_line_22 rfl 1 rfl ?_
      refine zm_if_le (tgt := 44) C dX10_line_23 (by decide) (fun hc_3 => ?_) (fun hc_3 => ?_)
      · have h := h.1 hc_3
        exact zm_sub [0, 1] rfl (vb_X10_line_44 C hr ih _ _ h)
      · have h := h.2 hc_3
        refine zm_aload_n C dX10_line_26 rfl 0 rfl ?_
        refine gf_RX10_22 (k1 := 122) C kd_117 rfl dX10_line_27 ?_
        refine zm_aload_n C dX10_line_30 rfl 0 rfl ?_
        refine zm_dup C dX10_line_31 rfl ?_
        refine gf_RX10_229 C kd_117 dX10_line_32 ?_
        refine zm_dup_x1 C dX10_line_35 rfl rfl ?_
        refine zm_iconst (v := 1) C dX10_line_36 (by decide) ?_
        refine zm_iadd C dX10_line_37 ?_
        refine pf_RX10_229 C kd_117  dX10_line_38 (fun u_4 hu_4 => ?_)
        have h := h u_4 hu_4
        refine zm_bipush (v := 32) C dX10_line_41 (by decide) ?_
        obtain ⟨hg_5, h⟩ := h
        refine zq_st_mc C kd_122 ln_122 hg_5 dX10_line_43 (fun u_6 hu_6 => ?_)
        have h := h u_6 hu_6
        exact zm_sub [0, 1] rfl (vb_X10_line_44 C hr ih _ _ h)
def w_X10_line (u : MU) (Q : Int32 → MU → Prop) : Prop := (∀ u_1, u_1 = u2 u 117 17 (0 : Int32) → (∀ u_2, u_2 = u2 u_1 117 7 (0 : Int32) → ∃ nn, wl_X10_line_12   Q nn (0 : Int32) u_2))
set_option maxHeartbeats 4000000 in
set_option maxRecDepth 100000 in
theorem c_X10_line (l : Launch) (g : GE) (U : MU) (u : MU) (W : (Nat → Int64) × (Nat → UInt64)) {Q : Int32 → MU → Prop} (h : w_X10_line u Q) : Met l yX10_line (.code yX10_line cX10_line 2 (Option.some Jvm.ClassFile.FieldType.int) :: TB) rm_X10_line (zPc g (U, u, W) [.ref (g.2.2.1 117)]) (zQi g (zPm U W Q)) 0 0 (zA g) := by
  unfold w_X10_line at h
  refine zMet (own := RX10) [(0, .ref (g.2.2.1 117))] (by decide +kernel) rfl (Nat.le_of_ble_eq_true rfl) rfl (fun p e s m args below meth c C hr => ?_)
  refine zm_aload_n C dX10_line_0 rfl 0 rfl ?_
  refine zm_iconst (v := 0) C dX10_line_1 (by decide) ?_
  refine pf_RX10_54 C kd_117  dX10_line_2 (fun u_1 hu_1 => ?_)
  have h := h u_1 hu_1
  refine zm_aload_n C dX10_line_5 rfl 0 rfl ?_
  refine zm_iconst (v := 0) C dX10_line_6 (by decide) ?_
  refine pf_RX10_229 C kd_117  dX10_line_7 (fun u_2 hu_2 => ?_)
  have h := h u_2 hu_2
  refine zm_iconst (v := 0) C dX10_line_10 (by decide) ?_
  refine zm_istore_n (lv' := [(1, .int (0 : Int32)), (0, .ref (g.2.2.1 117))]) C dX10_line_11 rfl (by decide) rfl ?_
  obtain ⟨nn, h⟩ := h
  exact zm_sub [1, 0] rfl (vl_X10_line_12 C hr  nn _ _ h)
abbrev rm_X10_character : Room := { frames := 1, cells := 0, slots := 0, locals := 22 }
def wb_X10_character_20 (Q : Int32 → MU → Prop) (x1 : Int32) (s0 : Int32) (u : MU) : Prop := (∀ u_1, u_1 = u2 u 117 17 s0 → ((¬ (u_1 117 17) = 0) → Q (97 : Int32) u_1) ∧ (((u_1 117 17) = 0) → vp_in x1 200 ∧ (narrow .char (.int (u_1 122 (x1).toNatClampNeg)) = .int (u_1 122 (x1).toNatClampNeg) ∧ Q (u_1 122 (x1).toNatClampNeg) u_1)))
set_option maxHeartbeats 4000000 in
set_option maxRecDepth 100000 in
theorem vb_X10_character_20 {p : Program} {l : Launch} {e : Env} {s : State} {m : MethodId} {args : Array Value} {below : List Frame} {meth : Method} {c : Code} {g : GE} {U : MU} {W : (Nat → Int64) × (Nat → UInt64)} {Q : Int32 → MU → Prop} (C : zCx p l s m args meth c g RX10 cX10_character 2) (hr : meth.sig.returnType = (Option.some Jvm.ClassFile.FieldType.char)) (x1 : Int32) (s0 : Int32) (u : MU) (h : wb_X10_character_20   Q x1 s0 u) : WM p l e rm_X10_character s m args below meth c g 2 0 0 (MQ below (zQi g (zPm U W Q)) args s 0 0 (zA g)) 20 [(0, .ref (g.2.2.1 117)), (1, .int x1)] [.int s0, .ref (g.2.2.1 117)] (U, u, W) := by
  unfold wb_X10_character_20 at h
  refine pf_RX10_54 C kd_117  dX10_character_20 (fun u_1 hu_1 => ?_)
  have h := h u_1 hu_1
  refine zm_aload_n C dX10_character_23 rfl 0 rfl ?_
  refine gf_RX10_54 C kd_117 dX10_character_24 ?_
  refine zm_if_ne (tgt := 39) C dX10_character_27 (by decide) (fun hc_2 => ?_) (fun hc_2 => ?_)
  · have h := h.1 hc_2
    refine zm_bipush (v := 97) C dX10_character_39 (by decide) ?_
    exact zm_zret (ty := .char) C hr (by decide) dX10_character_41 ⟨_, rfl, h⟩
  · have h := h.2 hc_2
    refine zm_aload_n C dX10_character_30 rfl 0 rfl ?_
    refine gf_RX10_22 (k1 := 122) C kd_117 rfl dX10_character_31 ?_
    refine zm_iload_n C dX10_character_34 rfl 1 rfl ?_
    obtain ⟨hg_3, h⟩ := h
    refine zq_ld_mc C kd_122 ln_122 hg_3 dX10_character_35 ?_
    refine zm_goto (tgt := 41) C dX10_character_36 (by decide) ?_
    obtain ⟨hg_4, h⟩ := h
    exact zm_zret (ty := .char) C hr hg_4 dX10_character_41 ⟨_, rfl, h⟩
def w_X10_character (x1 : Int32) (u : MU) (Q : Int32 → MU → Prop) : Prop := w_X10_in x1 (0 : Int32) ((u 117 7) - (1 : Int32)) (fun r_1 => ((r_1 = 0) → wb_X10_character_20   Q x1 (1 : Int32) u) ∧ ((¬ r_1 = 0) → wb_X10_character_20   Q x1 (0 : Int32) u))
set_option maxHeartbeats 4000000 in
set_option maxRecDepth 100000 in
theorem c_X10_character (l : Launch) (g : GE) (U : MU) (u : MU) (W : (Nat → Int64) × (Nat → UInt64)) (x1 : Int32) {Q : Int32 → MU → Prop} (h : w_X10_character x1 u Q) : Met l yX10_character (.code yX10_character cX10_character 2 (Option.some Jvm.ClassFile.FieldType.char) :: TB) rm_X10_character (zPc g (U, u, W) [.ref (g.2.2.1 117), .int x1]) (zQi g (zPm U W Q)) 0 0 (zA g) := by
  unfold w_X10_character at h
  refine zMet (own := RX10) [(0, .ref (g.2.2.1 117)), (1, .int x1)] (by decide +kernel) rfl (Nat.le_of_ble_eq_true rfl) rfl (fun p e s m args below meth c C hr => ?_)
  refine zm_aload_n C dX10_character_0 rfl 0 rfl ?_
  refine zm_iload_n C dX10_character_1 rfl 1 rfl ?_
  refine zm_iconst (v := 0) C dX10_character_2 (by decide) ?_
  refine zm_aload_n C dX10_character_3 rfl 0 rfl ?_
  refine gf_RX10_229 C kd_117 dX10_character_4 ?_
  refine zm_iconst (v := 1) C dX10_character_7 (by decide) ?_
  refine zm_isub C dX10_character_8 ?_
  refine zm_ci (zr_S (As := [.int x1, .int (0 : Int32), .int ((u 117 7) - (1 : Int32))]) (rest := [.ref (g.2.2.1 117)]) C (c_X10_in l g (U, u, W) x1 (0 : Int32) ((u 117 7) - (1 : Int32)) h) wd_1224 wd_1225 wd_11 wd_1226 hy_X10_in rfl rfl ⟨by decide, by decide⟩ ⟨by decide, by decide⟩ rfl rfl (Nat.le_of_ble_eq_true rfl) dX10_character_9) (fun r_1 M1 hq => ?_)
  obtain ⟨rfl, h⟩ := hq
  refine zm_if_eq (tgt := 19) C dX10_character_12 (by decide) (fun hc_3 => ?_) (fun hc_3 => ?_)
  · have h := h.1 hc_3
    refine zm_iconst (v := 1) C dX10_character_19 (by decide) ?_
    exact zm_sub [0, 1] rfl (vb_X10_character_20 C hr  _ _ _ h)
  · have h := h.2 hc_3
    refine zm_iconst (v := 0) C dX10_character_15 (by decide) ?_
    refine zm_goto (tgt := 20) C dX10_character_16 (by decide) ?_
    exact zm_sub [0, 1] rfl (vb_X10_character_20 C hr  _ _ _ h)
abbrev rm_X10_positions : Room := { frames := 4, cells := 0, slots := 0, locals := 87 }
def wb_X10_positions_22 (L4 : Int32 → Int32 → Prop) (u : MU) (Q : Int32 → Prop) (x1 : Int32) (x2 : Int32) : Prop := ∀ x2_1, x2_1 = x2 + (1 : Int32) → L4 x1 x2_1
set_option maxHeartbeats 4000000 in
set_option maxRecDepth 100000 in
theorem vb_X10_positions_22 {p : Program} {l : Launch} {e : Env} {s : State} {m : MethodId} {args : Array Value} {below : List Frame} {meth : Method} {c : Code} {g : GE} {U : MU} {W : (Nat → Int64) × (Nat → UInt64)} {u : MU} {Q : Int32 → Prop} (C : zCx p l s m args meth c g RX10 cX10_positions 3) (hr : meth.sig.returnType = (Option.some Jvm.ClassFile.FieldType.int)) {L4 : Int32 → Int32 → Prop} (hL4 : ∀ (x1 : Int32) (x2 : Int32) , L4 x1 x2  → WM p l e rm_X10_positions s m args below meth c g 3 0 0 (MQ below (zQi g (zP0 (U, u, W) Q)) args s 0 0 (zA g)) 4 [(0, .ref (g.2.2.1 117)), (1, .int x1), (2, .int x2)] [] (U, u, W)) (x1 : Int32) (x2 : Int32) (h : wb_X10_positions_22 L4 u Q x1 x2) : WM p l e rm_X10_positions s m args below meth c g 3 0 0 (MQ below (zQi g (zP0 (U, u, W) Q)) args s 0 0 (zA g)) 22 [(0, .ref (g.2.2.1 117)), (1, .int x1), (2, .int x2)] [] (U, u, W) := by
  unfold wb_X10_positions_22 at h
  obtain ⟨x2_1, hx2_1⟩ : ∃ z, z = x2 + (1 : Int32) := ⟨_, rfl⟩
  have h := h x2_1 hx2_1
  refine zm_iinc (v := x2_1) (lv' := [(2, .int x2_1), (0, .ref (g.2.2.1 117)), (1, .int x1)]) C dX10_positions_22 2 rfl (by rw [hx2_1]; rfl) (by decide) rfl ?_
  refine zm_goto (tgt := 4) C dX10_positions_25 (by decide) ?_
  exact zm_sub [1, 2, 0] rfl (hL4 _ _ h)
def wl_X10_positions_4 (u : MU) (Q : Int32 → Prop) : Nat → Int32 → Int32 → Prop
  | 0, _, _ => False
  | n + 1, x1, x2 => (((1296 : Int32) ≤ x2) → Q x1) ∧ ((¬ (1296 : Int32) ≤ x2) → w_X10_isPosition u x2 (fun r_2 => ((r_2 = 0) → wb_X10_positions_22 (fun x1' x2' => wl_X10_positions_4 u Q n x1' x2') u Q x1 x2) ∧ ((¬ r_2 = 0) → ∀ x1_5, x1_5 = x1 + (1 : Int32) → wb_X10_positions_22 (fun x1' x2' => wl_X10_positions_4 u Q n x1' x2') u Q x1_5 x2)))
set_option maxHeartbeats 4000000 in
set_option maxRecDepth 100000 in
theorem vl_X10_positions_4 {p : Program} {l : Launch} {e : Env} {s : State} {m : MethodId} {args : Array Value} {below : List Frame} {meth : Method} {c : Code} {g : GE} {U : MU} {W : (Nat → Int64) × (Nat → UInt64)} {u : MU} {Q : Int32 → Prop} (C : zCx p l s m args meth c g RX10 cX10_positions 3) (hr : meth.sig.returnType = (Option.some Jvm.ClassFile.FieldType.int)) : ∀ (n : Nat) (x1 : Int32) (x2 : Int32) , wl_X10_positions_4  u Q n x1 x2 → WM p l e rm_X10_positions s m args below meth c g 3 0 0 (MQ below (zQi g (zP0 (U, u, W) Q)) args s 0 0 (zA g)) 4 [(0, .ref (g.2.2.1 117)), (1, .int x1), (2, .int x2)] [] (U, u, W) := by
  intro n
  induction n with
  | zero => intro _ _ h; exact h.elim
  | succ n ih =>
    intro x1 x2 h
    unfold wl_X10_positions_4 at h
    refine zm_iload_n C dX10_positions_4 rfl 2 rfl ?_
    refine zm_sipush (v := 1296) C dX10_positions_5 (by decide) ?_
    refine zm_icmp_ge (tgt := 28) C dX10_positions_8 (by decide) (fun hc_1 => ?_) (fun hc_1 => ?_)
    · have h := h.1 hc_1
      refine zm_iload_n C dX10_positions_28 rfl 1 rfl ?_
      exact zm_iret C hr dX10_positions_29 ⟨rfl, h⟩
    · have h := h.2 hc_1
      refine zm_aload_n C dX10_positions_11 rfl 0 rfl ?_
      refine zm_iload_n C dX10_positions_12 rfl 2 rfl ?_
      refine zm_ci (zr_V (As := [.int x2]) (rest := []) C (c_X10_isPosition l g U u W x2 h) wd_1268 wd_1270 wp_44 wd_11 wd_1271 hy_X10_isPosition rfl rfl ⟨by decide, by decide⟩ ⟨by decide, by decide⟩ (ci := 10) (by decide) (zCell_k kd_117) rfl rfl rfl rfl (Nat.le_of_ble_eq_true rfl) dX10_positions_13) (fun r_2 M1 hq => ?_)
      obtain ⟨rfl, h⟩ := hq
      refine zm_if_eq (tgt := 22) C dX10_positions_16 (by decide) (fun hc_4 => ?_) (fun hc_4 => ?_)
      · have h := h.1 hc_4
        exact zm_sub [0, 1, 2] rfl (vb_X10_positions_22 C hr ih _ _ h)
      · have h := h.2 hc_4
        obtain ⟨x1_5, hx1_5⟩ : ∃ z, z = x1 + (1 : Int32) := ⟨_, rfl⟩
        have h := h x1_5 hx1_5
        refine zm_iinc (v := x1_5) (lv' := [(1, .int x1_5), (0, .ref (g.2.2.1 117)), (2, .int x2)]) C dX10_positions_19 1 rfl (by rw [hx1_5]; rfl) (by decide) rfl ?_
        exact zm_sub [1, 0, 2] rfl (vb_X10_positions_22 C hr ih _ _ h)
def w_X10_positions (u : MU) (Q : Int32 → Prop) : Prop := ∃ nn, wl_X10_positions_4  u Q nn (0 : Int32) (0 : Int32)
set_option maxHeartbeats 4000000 in
set_option maxRecDepth 100000 in
theorem c_X10_positions (l : Launch) (g : GE) (U : MU) (u : MU) (W : (Nat → Int64) × (Nat → UInt64)) {Q : Int32 → Prop} (h : w_X10_positions u Q) : Met l yX10_positions (.code yX10_positions cX10_positions 3 (Option.some Jvm.ClassFile.FieldType.int) :: TB) rm_X10_positions (zPc g (U, u, W) [.ref (g.2.2.1 117)]) (zQi g (zP0 (U, u, W) Q)) 0 0 (zA g) := by
  unfold w_X10_positions at h
  refine zMet (own := RX10) [(0, .ref (g.2.2.1 117))] (by decide +kernel) rfl (Nat.le_of_ble_eq_true rfl) rfl (fun p e s m args below meth c C hr => ?_)
  refine zm_iconst (v := 0) C dX10_positions_0 (by decide) ?_
  refine zm_istore_n (lv' := [(1, .int (0 : Int32)), (0, .ref (g.2.2.1 117))]) C dX10_positions_1 rfl (by decide) rfl ?_
  refine zm_iconst (v := 0) C dX10_positions_2 (by decide) ?_
  refine zm_istore_n (lv' := [(2, .int (0 : Int32)), (1, .int (0 : Int32)), (0, .ref (g.2.2.1 117))]) C dX10_positions_3 rfl (by decide) rfl ?_
  obtain ⟨nn, h⟩ := h
  exact zm_sub [2, 1, 0] rfl (vl_X10_positions_4 C hr  nn _ _ h)
abbrev rm_X10_meanMoves : Room := { frames := 6, cells := 0, slots := 0, locals := 135 }
def wb_X10_meanMoves_41 (L10 : Int32 → Int32 → Int32 → MU → Prop) (Q : UInt64 → MU → Prop) (x1 : Int32) (x2 : Int32) (x3 : Int32) (u : MU) : Prop := ∀ x3_1, x3_1 = x3 + (1 : Int32) → L10 x1 x2 x3_1 u
set_option maxHeartbeats 4000000 in
set_option maxRecDepth 100000 in
theorem vb_X10_meanMoves_41 {p : Program} {l : Launch} {e : Env} {s : State} {m : MethodId} {args : Array Value} {below : List Frame} {meth : Method} {c : Code} {g : GE} {U : MU} {W : (Nat → Int64) × (Nat → UInt64)} {Q : UInt64 → MU → Prop} (C : zCx p l s m args meth c g RX10 cX10_meanMoves 4) (hr : meth.sig.returnType = (Option.some Jvm.ClassFile.FieldType.double)) {L10 : Int32 → Int32 → Int32 → MU → Prop} (hL10 : ∀ (x1 : Int32) (x2 : Int32) (x3 : Int32) (u : MU), L10 x1 x2 x3 u → WM p l e rm_X10_meanMoves s m args below meth c g 4 0 0 (MQ below (zQd g (zPm U W Q)) args s 0 0 (zA g)) 10 [(0, .ref (g.2.2.1 117)), (1, .int x1), (2, .int x2), (3, .int x3)] [] (U, u, W)) (x1 : Int32) (x2 : Int32) (x3 : Int32) (u : MU) (h : wb_X10_meanMoves_41 L10  Q x1 x2 x3 u) : WM p l e rm_X10_meanMoves s m args below meth c g 4 0 0 (MQ below (zQd g (zPm U W Q)) args s 0 0 (zA g)) 41 [(0, .ref (g.2.2.1 117)), (1, .int x1), (2, .int x2), (3, .int x3)] [] (U, u, W) := by
  unfold wb_X10_meanMoves_41 at h
  obtain ⟨x3_1, hx3_1⟩ : ∃ z, z = x3 + (1 : Int32) := ⟨_, rfl⟩
  have h := h x3_1 hx3_1
  refine zm_iinc (v := x3_1) (lv' := [(3, .int x3_1), (0, .ref (g.2.2.1 117)), (1, .int x1), (2, .int x2)]) C dX10_meanMoves_41 3 rfl (by rw [hx3_1]; rfl) (by decide) rfl ?_
  refine zm_goto (tgt := 10) C dX10_meanMoves_44 (by decide) ?_
  exact zm_sub [1, 2, 3, 0] rfl (hL10 _ _ _ _ h)
def wl_X10_meanMoves_10 (Q : UInt64 → MU → Prop) : Nat → Int32 → Int32 → Int32 → MU → Prop
  | 0, _, _, _, _ => False
  | n + 1, x1, x2, x3, u => (((1296 : Int32) ≤ x3) → ((¬ x1 = 0) → vf_n64 (FP.ddiv (FP.i2d x2) (FP.i2d x1)) ∧ (Q (FP.ddiv (FP.i2d x2) (FP.i2d x1)) u)) ∧ ((x1 = 0) → w_X10_raises (1 : Int32) u (fun r_4 u_5 => Q (FP.i2d r_4) u_5))) ∧ ((¬ (1296 : Int32) ≤ x3) → vp_in x3 1296 ∧ (((¬ (u 126 (x3).toNatClampNeg) = 0) → ∀ x1_8, x1_8 = x1 + (1 : Int32) → vp_in x3 1296 ∧ (∀ x2_10, x2_10 = (x2 + (u 127 (x3).toNatClampNeg)) → wb_X10_meanMoves_41 (fun x1' x2' x3' u' => wl_X10_meanMoves_10  Q n x1' x2' x3' u')  Q x1_8 x2_10 x3 u)) ∧ (((u 126 (x3).toNatClampNeg) = 0) → wb_X10_meanMoves_41 (fun x1' x2' x3' u' => wl_X10_meanMoves_10  Q n x1' x2' x3' u')  Q x1 x2 x3 u)))
set_option maxHeartbeats 4000000 in
set_option maxRecDepth 100000 in
theorem vl_X10_meanMoves_10 {p : Program} {l : Launch} {e : Env} {s : State} {m : MethodId} {args : Array Value} {below : List Frame} {meth : Method} {c : Code} {g : GE} {U : MU} {W : (Nat → Int64) × (Nat → UInt64)} {Q : UInt64 → MU → Prop} (C : zCx p l s m args meth c g RX10 cX10_meanMoves 4) (hr : meth.sig.returnType = (Option.some Jvm.ClassFile.FieldType.double)) : ∀ (n : Nat) (x1 : Int32) (x2 : Int32) (x3 : Int32) (u : MU) , wl_X10_meanMoves_10   Q n x1 x2 x3 u → WM p l e rm_X10_meanMoves s m args below meth c g 4 0 0 (MQ below (zQd g (zPm U W Q)) args s 0 0 (zA g)) 10 [(0, .ref (g.2.2.1 117)), (1, .int x1), (2, .int x2), (3, .int x3)] [] (U, u, W) := by
  intro n
  induction n with
  | zero => intro _ _ _ _ h; exact h.elim
  | succ n ih =>
    intro x1 x2 x3 u h
    unfold wl_X10_meanMoves_10 at h
    refine zm_iload_n C dX10_meanMoves_10 rfl 3 rfl ?_
    refine zm_sipush (v := 1296) C dX10_meanMoves_11 (by decide) ?_
    refine zm_icmp_ge (tgt := 47) C dX10_meanMoves_14 (by decide) (fun hc_1 => ?_) (fun hc_1 => ?_)
    · have h := h.1 hc_1
      refine zm_iload_n C dX10_meanMoves_47 rfl 1 rfl ?_
      refine zm_if_ne (tgt := 60) C dX10_meanMoves_48 (by decide) (fun hc_2 => ?_) (fun hc_2 => ?_)
      · have h := h.1 hc_2
        refine zm_iload_n C dX10_meanMoves_60 rfl 2 rfl ?_
        refine zm_i2d C dX10_meanMoves_61 ?_
        refine zm_iload_n C dX10_meanMoves_62 rfl 1 rfl ?_
        refine zm_i2d C dX10_meanMoves_63 ?_
        obtain ⟨hg_3, h⟩ := h
        refine zm_ddiv C dX10_meanMoves_64 hg_3 ?_
        exact zm_dret C hr dX10_meanMoves_65 ⟨_, rfl, h⟩
      · have h := h.2 hc_2
        refine zm_aload_n C dX10_meanMoves_51 rfl 0 rfl ?_
        refine zm_iconst (v := 1) C dX10_meanMoves_52 (by decide) ?_
        refine zm_ci (zr_V (As := [.int (1 : Int32)]) (rest := []) C (c_X10_raises l g U u W (1 : Int32) h) wd_1204 wd_1206 wp_34 wd_11 wd_1207 hy_X10_raises rfl rfl ⟨by decide, by decide⟩ ⟨by decide, by decide⟩ (ci := 10) (by decide) (zCell_k kd_117) rfl rfl rfl rfl (Nat.le_of_ble_eq_true rfl) dX10_meanMoves_53) (fun r_4 M1 hq => ?_)
        obtain ⟨u_5, rfl, h⟩ := hq
        refine zm_i2d C dX10_meanMoves_56 ?_
        refine zm_goto (tgt := 65) C dX10_meanMoves_57 (by decide) ?_
        exact zm_dret C hr dX10_meanMoves_65 ⟨_, rfl, h⟩
    · have h := h.2 hc_1
      refine zm_aload_n C dX10_meanMoves_17 rfl 0 rfl ?_
      refine gf_RX10_39 (k1 := 126) C kd_117 rfl dX10_meanMoves_18 ?_
      refine zm_iload_n C dX10_meanMoves_21 rfl 3 rfl ?_
      obtain ⟨hg_6, h⟩ := h
      refine zq_ld_m C kd_126 ln_126 hg_6 dX10_meanMoves_22 ?_
      refine zm_if_ne (tgt := 29) C dX10_meanMoves_23 (by decide) (fun hc_7 => ?_) (fun hc_7 => ?_)
      · have h := h.1 hc_7
        obtain ⟨x1_8, hx1_8⟩ : ∃ z, z = x1 + (1 : Int32) := ⟨_, rfl⟩
        have h := h x1_8 hx1_8
        refine zm_iinc (v := x1_8) (lv' := [(1, .int x1_8), (0, .ref (g.2.2.1 117)), (2, .int x2), (3, .int x3)]) C dX10_meanMoves_29 1 rfl (by rw [hx1_8]; rfl) (by decide) rfl ?_
        refine zm_iload_n C dX10_meanMoves_32 rfl 2 rfl ?_
        refine zm_aload_n C dX10_meanMoves_33 rfl 1 rfl ?_
        refine gf_RX10_42 (k1 := 127) C kd_117 rfl dX10_meanMoves_34 ?_
        refine zm_iload_n C dX10_meanMoves_37 rfl 3 rfl ?_
        obtain ⟨hg_9, h⟩ := h
        refine zq_ld_m C kd_127 ln_127 hg_9 dX10_meanMoves_38 ?_
        refine zm_iadd C dX10_meanMoves_39 ?_
        refine zm_nmI (fun x2_10 hx2_10 => ?_)
        have h := h x2_10 hx2_10
        refine zm_istore_n (lv' := [(2, .int x2_10), (1, .int x1_8), (0, .ref (g.2.2.1 117)), (3, .int x3)]) C dX10_meanMoves_40 rfl (by decide) rfl ?_
        exact zm_sub [2, 1, 0, 3] rfl (vb_X10_meanMoves_41 C hr ih _ _ _ _ h)
      · have h := h.2 hc_7
        refine zm_goto (tgt := 41) C dX10_meanMoves_26 (by decide) ?_
        exact zm_sub [0, 1, 2, 3] rfl (vb_X10_meanMoves_41 C hr ih _ _ _ _ h)
def w_X10_meanMoves (u : MU) (Q : UInt64 → MU → Prop) : Prop := w_X10_knows  u (fun u_2 => ∃ nn, wl_X10_meanMoves_10   Q nn (0 : Int32) (0 : Int32) (0 : Int32) u_2)
set_option maxHeartbeats 4000000 in
set_option maxRecDepth 100000 in
theorem c_X10_meanMoves (l : Launch) (g : GE) (U : MU) (u : MU) (W : (Nat → Int64) × (Nat → UInt64)) {Q : UInt64 → MU → Prop} (h : w_X10_meanMoves u Q) : Met l yX10_meanMoves (.code yX10_meanMoves cX10_meanMoves 4 (Option.some Jvm.ClassFile.FieldType.double) :: TB) rm_X10_meanMoves (zPc g (U, u, W) [.ref (g.2.2.1 117)]) (zQd g (zPm U W Q)) 0 0 (zA g) := by
  unfold w_X10_meanMoves at h
  refine zMet (own := RX10) [(0, .ref (g.2.2.1 117))] (by decide +kernel) rfl (Nat.le_of_ble_eq_true rfl) rfl (fun p e s m args below meth c C hr => ?_)
  refine zm_aload_n C dX10_meanMoves_0 rfl 0 rfl ?_
  refine zm_cv (zr_V (As := []) (rest := []) C (c_X10_knows l g U u W  h) wd_1352 wd_1354 wp_55 wd_11 wd_1355 hy_X10_knows rfl rfl ⟨by decide, by decide⟩ ⟨by decide, by decide⟩ (ci := 10) (by decide) (zCell_k kd_117) rfl rfl rfl rfl (Nat.le_of_ble_eq_true rfl) dX10_meanMoves_1) (fun M1 hq => ?_)
  obtain ⟨u_2, rfl, h⟩ := hq
  refine zm_iconst (v := 0) C dX10_meanMoves_4 (by decide) ?_
  refine zm_istore_n (lv' := [(1, .int (0 : Int32)), (0, .ref (g.2.2.1 117))]) C dX10_meanMoves_5 rfl (by decide) rfl ?_
  refine zm_iconst (v := 0) C dX10_meanMoves_6 (by decide) ?_
  refine zm_istore_n (lv' := [(2, .int (0 : Int32)), (1, .int (0 : Int32)), (0, .ref (g.2.2.1 117))]) C dX10_meanMoves_7 rfl (by decide) rfl ?_
  refine zm_iconst (v := 0) C dX10_meanMoves_8 (by decide) ?_
  refine zm_istore_n (lv' := [(3, .int (0 : Int32)), (2, .int (0 : Int32)), (1, .int (0 : Int32)), (0, .ref (g.2.2.1 117))]) C dX10_meanMoves_9 rfl (by decide) rfl ?_
  obtain ⟨nn, h⟩ := h
  exact zm_sub [3, 2, 1, 0] rfl (vl_X10_meanMoves_10 C hr  nn _ _ _ _ h)
abbrev rm_X10_drawn : Room := { frames := 6, cells := 0, slots := 0, locals := 135 }
def wb_X10_drawn_35 (L8 : Int32 → Int32 → MU → Prop) (Q : UInt32 → MU → Prop) (x1 : Int32) (x2 : Int32) (u : MU) : Prop := ∀ x2_1, x2_1 = x2 + (1 : Int32) → L8 x1 x2_1 u
set_option maxHeartbeats 4000000 in
set_option maxRecDepth 100000 in
theorem vb_X10_drawn_35 {p : Program} {l : Launch} {e : Env} {s : State} {m : MethodId} {args : Array Value} {below : List Frame} {meth : Method} {c : Code} {g : GE} {U : MU} {W : (Nat → Int64) × (Nat → UInt64)} {Q : UInt32 → MU → Prop} (C : zCx p l s m args meth c g RX10 cX10_drawn 3) (hr : meth.sig.returnType = (Option.some Jvm.ClassFile.FieldType.float)) {L8 : Int32 → Int32 → MU → Prop} (hL8 : ∀ (x1 : Int32) (x2 : Int32) (u : MU), L8 x1 x2 u → WM p l e rm_X10_drawn s m args below meth c g 3 0 0 (MQ below (zQf g (zPm U W Q)) args s 0 0 (zA g)) 8 [(0, .ref (g.2.2.1 117)), (1, .int x1), (2, .int x2)] [] (U, u, W)) (x1 : Int32) (x2 : Int32) (u : MU) (h : wb_X10_drawn_35 L8  Q x1 x2 u) : WM p l e rm_X10_drawn s m args below meth c g 3 0 0 (MQ below (zQf g (zPm U W Q)) args s 0 0 (zA g)) 35 [(0, .ref (g.2.2.1 117)), (1, .int x1), (2, .int x2)] [] (U, u, W) := by
  unfold wb_X10_drawn_35 at h
  obtain ⟨x2_1, hx2_1⟩ : ∃ z, z = x2 + (1 : Int32) := ⟨_, rfl⟩
  have h := h x2_1 hx2_1
  refine zm_iinc (v := x2_1) (lv' := [(2, .int x2_1), (0, .ref (g.2.2.1 117)), (1, .int x1)]) C dX10_drawn_35 2 rfl (by rw [hx2_1]; rfl) (by decide) rfl ?_
  refine zm_goto (tgt := 8) C dX10_drawn_38 (by decide) ?_
  exact zm_sub [1, 2, 0] rfl (hL8 _ _ _ h)
def wl_X10_drawn_8 (Q : UInt32 → MU → Prop) : Nat → Int32 → Int32 → MU → Prop
  | 0, _, _, _ => False
  | n + 1, x1, x2, u => (((1296 : Int32) ≤ x2) → w_X10_positions u (fun r_2 => ((¬ r_2 = 0) → w_X10_positions u (fun r_5 => vf_n32 (FP.fdiv (FP.i2f x1) (FP.i2f r_5)) ∧ (Q (FP.fdiv (FP.i2f x1) (FP.i2f r_5)) u))) ∧ ((r_2 = 0) → w_X10_raises (1 : Int32) u (fun r_8 u_9 => Q (FP.i2f r_8) u_9)))) ∧ ((¬ (1296 : Int32) ≤ x2) → w_X10_isPosition u x2 (fun r_10 => ((r_10 = 0) → wb_X10_drawn_35 (fun x1' x2' u' => wl_X10_drawn_8  Q n x1' x2' u')  Q x1 x2 u) ∧ ((¬ r_10 = 0) → vp_in x2 1296 ∧ (((¬ (u 126 (x2).toNatClampNeg) = 0) → wb_X10_drawn_35 (fun x1' x2' u' => wl_X10_drawn_8  Q n x1' x2' u')  Q x1 x2 u) ∧ (((u 126 (x2).toNatClampNeg) = 0) → ∀ x1_15, x1_15 = x1 + (1 : Int32) → wb_X10_drawn_35 (fun x1' x2' u' => wl_X10_drawn_8  Q n x1' x2' u')  Q x1_15 x2 u)))))
set_option maxHeartbeats 4000000 in
set_option maxRecDepth 100000 in
theorem vl_X10_drawn_8 {p : Program} {l : Launch} {e : Env} {s : State} {m : MethodId} {args : Array Value} {below : List Frame} {meth : Method} {c : Code} {g : GE} {U : MU} {W : (Nat → Int64) × (Nat → UInt64)} {Q : UInt32 → MU → Prop} (C : zCx p l s m args meth c g RX10 cX10_drawn 3) (hr : meth.sig.returnType = (Option.some Jvm.ClassFile.FieldType.float)) : ∀ (n : Nat) (x1 : Int32) (x2 : Int32) (u : MU) , wl_X10_drawn_8   Q n x1 x2 u → WM p l e rm_X10_drawn s m args below meth c g 3 0 0 (MQ below (zQf g (zPm U W Q)) args s 0 0 (zA g)) 8 [(0, .ref (g.2.2.1 117)), (1, .int x1), (2, .int x2)] [] (U, u, W) := by
  intro n
  induction n with
  | zero => intro _ _ _ h; exact h.elim
  | succ n ih =>
    intro x1 x2 u h
    unfold wl_X10_drawn_8 at h
    refine zm_iload_n C dX10_drawn_8 rfl 2 rfl ?_
    refine zm_sipush (v := 1296) C dX10_drawn_9 (by decide) ?_
    refine zm_icmp_ge (tgt := 41) C dX10_drawn_12 (by decide) (fun hc_1 => ?_) (fun hc_1 => ?_)
    · have h := h.1 hc_1
      refine zm_aload_n C dX10_drawn_41 rfl 0 rfl ?_
      refine zm_ci (zr_V (As := []) (rest := []) C (c_X10_positions l g U u W  h) wd_1460 wd_1462 wp_61 wd_11 wd_1463 hy_X10_positions rfl rfl ⟨by decide, by decide⟩ ⟨by decide, by decide⟩ (ci := 10) (by decide) (zCell_k kd_117) rfl rfl rfl rfl (Nat.le_of_ble_eq_true rfl) dX10_drawn_42) (fun r_2 M1 hq => ?_)
      obtain ⟨rfl, h⟩ := hq
      refine zm_if_ne (tgt := 57) C dX10_drawn_45 (by decide) (fun hc_4 => ?_) (fun hc_4 => ?_)
      · have h := h.1 hc_4
        refine zm_iload_n C dX10_drawn_57 rfl 1 rfl ?_
        refine zm_i2f C dX10_drawn_58 ?_
        refine zm_aload_n C dX10_drawn_59 rfl 0 rfl ?_
        refine zm_ci (zr_V (As := []) (rest := [.float (FP.i2f x1)]) C (c_X10_positions l g U u W  h) wd_1460 wd_1462 wp_61 wd_11 wd_1463 hy_X10_positions rfl rfl ⟨by decide, by decide⟩ ⟨by decide, by decide⟩ (ci := 10) (by decide) (zCell_k kd_117) rfl rfl rfl rfl (Nat.le_of_ble_eq_true rfl) dX10_drawn_60) (fun r_5 M1 hq => ?_)
        obtain ⟨rfl, h⟩ := hq
        refine zm_i2f C dX10_drawn_63 ?_
        obtain ⟨hg_7, h⟩ := h
        refine zm_fdiv C dX10_drawn_64 hg_7 ?_
        exact zm_fret C hr dX10_drawn_65 ⟨_, rfl, h⟩
      · have h := h.2 hc_4
        refine zm_aload_n C dX10_drawn_48 rfl 0 rfl ?_
        refine zm_iconst (v := 1) C dX10_drawn_49 (by decide) ?_
        refine zm_ci (zr_V (As := [.int (1 : Int32)]) (rest := []) C (c_X10_raises l g U u W (1 : Int32) h) wd_1204 wd_1206 wp_34 wd_11 wd_1207 hy_X10_raises rfl rfl ⟨by decide, by decide⟩ ⟨by decide, by decide⟩ (ci := 10) (by decide) (zCell_k kd_117) rfl rfl rfl rfl (Nat.le_of_ble_eq_true rfl) dX10_drawn_50) (fun r_8 M1 hq => ?_)
        obtain ⟨u_9, rfl, h⟩ := hq
        refine zm_i2f C dX10_drawn_53 ?_
        refine zm_goto (tgt := 65) C dX10_drawn_54 (by decide) ?_
        exact zm_fret C hr dX10_drawn_65 ⟨_, rfl, h⟩
    · have h := h.2 hc_1
      refine zm_aload_n C dX10_drawn_15 rfl 0 rfl ?_
      refine zm_iload_n C dX10_drawn_16 rfl 2 rfl ?_
      refine zm_ci (zr_V (As := [.int x2]) (rest := []) C (c_X10_isPosition l g U u W x2 h) wd_1268 wd_1270 wp_44 wd_11 wd_1271 hy_X10_isPosition rfl rfl ⟨by decide, by decide⟩ ⟨by decide, by decide⟩ (ci := 10) (by decide) (zCell_k kd_117) rfl rfl rfl rfl (Nat.le_of_ble_eq_true rfl) dX10_drawn_17) (fun r_10 M1 hq => ?_)
      obtain ⟨rfl, h⟩ := hq
      refine zm_if_eq (tgt := 35) C dX10_drawn_20 (by decide) (fun hc_12 => ?_) (fun hc_12 => ?_)
      · have h := h.1 hc_12
        exact zm_sub [0, 1, 2] rfl (vb_X10_drawn_35 C hr ih _ _ _ h)
      · have h := h.2 hc_12
        refine zm_aload_n C dX10_drawn_23 rfl 0 rfl ?_
        refine gf_RX10_39 (k1 := 126) C kd_117 rfl dX10_drawn_24 ?_
        refine zm_iload_n C dX10_drawn_27 rfl 2 rfl ?_
        obtain ⟨hg_13, h⟩ := h
        refine zq_ld_m C kd_126 ln_126 hg_13 dX10_drawn_28 ?_
        refine zm_if_ne (tgt := 35) C dX10_drawn_29 (by decide) (fun hc_14 => ?_) (fun hc_14 => ?_)
        · have h := h.1 hc_14
          exact zm_sub [0, 1, 2] rfl (vb_X10_drawn_35 C hr ih _ _ _ h)
        · have h := h.2 hc_14
          obtain ⟨x1_15, hx1_15⟩ : ∃ z, z = x1 + (1 : Int32) := ⟨_, rfl⟩
          have h := h x1_15 hx1_15
          refine zm_iinc (v := x1_15) (lv' := [(1, .int x1_15), (0, .ref (g.2.2.1 117)), (2, .int x2)]) C dX10_drawn_32 1 rfl (by rw [hx1_15]; rfl) (by decide) rfl ?_
          exact zm_sub [1, 0, 2] rfl (vb_X10_drawn_35 C hr ih _ _ _ h)
def w_X10_drawn (u : MU) (Q : UInt32 → MU → Prop) : Prop := w_X10_knows  u (fun u_2 => ∃ nn, wl_X10_drawn_8   Q nn (0 : Int32) (0 : Int32) u_2)
set_option maxHeartbeats 4000000 in
set_option maxRecDepth 100000 in
theorem c_X10_drawn (l : Launch) (g : GE) (U : MU) (u : MU) (W : (Nat → Int64) × (Nat → UInt64)) {Q : UInt32 → MU → Prop} (h : w_X10_drawn u Q) : Met l yX10_drawn (.code yX10_drawn cX10_drawn 3 (Option.some Jvm.ClassFile.FieldType.float) :: TB) rm_X10_drawn (zPc g (U, u, W) [.ref (g.2.2.1 117)]) (zQf g (zPm U W Q)) 0 0 (zA g) := by
  unfold w_X10_drawn at h
  refine zMet (own := RX10) [(0, .ref (g.2.2.1 117))] (by decide +kernel) rfl (Nat.le_of_ble_eq_true rfl) rfl (fun p e s m args below meth c C hr => ?_)
  refine zm_aload_n C dX10_drawn_0 rfl 0 rfl ?_
  refine zm_cv (zr_V (As := []) (rest := []) C (c_X10_knows l g U u W  h) wd_1352 wd_1354 wp_55 wd_11 wd_1355 hy_X10_knows rfl rfl ⟨by decide, by decide⟩ ⟨by decide, by decide⟩ (ci := 10) (by decide) (zCell_k kd_117) rfl rfl rfl rfl (Nat.le_of_ble_eq_true rfl) dX10_drawn_1) (fun M1 hq => ?_)
  obtain ⟨u_2, rfl, h⟩ := hq
  refine zm_iconst (v := 0) C dX10_drawn_4 (by decide) ?_
  refine zm_istore_n (lv' := [(1, .int (0 : Int32)), (0, .ref (g.2.2.1 117))]) C dX10_drawn_5 rfl (by decide) rfl ?_
  refine zm_iconst (v := 0) C dX10_drawn_6 (by decide) ?_
  refine zm_istore_n (lv' := [(2, .int (0 : Int32)), (1, .int (0 : Int32)), (0, .ref (g.2.2.1 117))]) C dX10_drawn_7 rfl (by decide) rfl ?_
  obtain ⟨nn, h⟩ := h
  exact zm_sub [2, 1, 0] rfl (vl_X10_drawn_8 C hr  nn _ _ _ h)
abbrev rm_X10_account : Room := { frames := 6, cells := 0, slots := 0, locals := 135 }
def wb_X10_account_131 (L102 : Int32 → Int32 → MU → Prop) (Q : Int32 → MU → Prop) (x2 : Int32) (x3 : Int32) (u : MU) : Prop := ∀ x3_1, x3_1 = x3 + (1 : Int32) → L102 x2 x3_1 u
set_option maxHeartbeats 4000000 in
set_option maxRecDepth 100000 in
theorem vb_X10_account_131 {p : Program} {l : Launch} {e : Env} {s : State} {m : MethodId} {args : Array Value} {below : List Frame} {meth : Method} {c : Code} {g : GE} {U : MU} {W : (Nat → Int64) × (Nat → UInt64)} {Q : Int32 → MU → Prop} (C : zCx p l s m args meth c g RX10 cX10_account 4) (hr : meth.sig.returnType = (Option.some Jvm.ClassFile.FieldType.int)) {L102 : Int32 → Int32 → MU → Prop} (hL102 : ∀ (x2 : Int32) (x3 : Int32) (u : MU), L102 x2 x3 u → WM p l e rm_X10_account s m args below meth c g 4 0 0 (MQ below (zQi g (zPm U W Q)) args s 0 0 (zA g)) 102 [(0, .ref (g.2.2.1 117)), (2, .int x2), (3, .int x3)] [] (U, u, W)) (x2 : Int32) (x3 : Int32) (u : MU) (h : wb_X10_account_131 L102  Q x2 x3 u) : WM p l e rm_X10_account s m args below meth c g 4 0 0 (MQ below (zQi g (zPm U W Q)) args s 0 0 (zA g)) 131 [(0, .ref (g.2.2.1 117)), (2, .int x2), (3, .int x3)] [] (U, u, W) := by
  unfold wb_X10_account_131 at h
  obtain ⟨x3_1, hx3_1⟩ : ∃ z, z = x3 + (1 : Int32) := ⟨_, rfl⟩
  have h := h x3_1 hx3_1
  refine zm_iinc (v := x3_1) (lv' := [(3, .int x3_1), (0, .ref (g.2.2.1 117)), (2, .int x2)]) C dX10_account_131 2 rfl (by rw [hx3_1]; rfl) (by decide) rfl ?_
  refine zm_goto (tgt := 102) C dX10_account_134 (by decide) ?_
  exact zm_sub [1, 2, 0] rfl (hL102 _ _ _ h)
def wl_X10_account_102 (Q : Int32 → MU → Prop) : Nat → Int32 → Int32 → MU → Prop
  | 0, _, _, _ => False
  | n + 1, x2, x3, u => (((1296 : Int32) ≤ x3) → Q x2 u) ∧ ((¬ (1296 : Int32) ≤ x3) → vp_in x3 1296 ∧ (((¬ (u 126 (x3).toNatClampNeg) = (2 : Int32)) → wb_X10_account_131 (fun x2' x3' u' => wl_X10_account_102  Q n x2' x3' u')  Q x2 x3 u) ∧ (((u 126 (x3).toNatClampNeg) = (2 : Int32)) → vp_in x3 1296 ∧ (((¬ (u 127 (x3).toNatClampNeg) = 0) → wb_X10_account_131 (fun x2' x3' u' => wl_X10_account_102  Q n x2' x3' u')  Q x2 x3 u) ∧ (((u 127 (x3).toNatClampNeg) = 0) → ∀ x2_6, x2_6 = x2 + (1 : Int32) → wb_X10_account_131 (fun x2' x3' u' => wl_X10_account_102  Q n x2' x3' u')  Q x2_6 x3 u)))))
set_option maxHeartbeats 4000000 in
set_option maxRecDepth 100000 in
theorem vl_X10_account_102 {p : Program} {l : Launch} {e : Env} {s : State} {m : MethodId} {args : Array Value} {below : List Frame} {meth : Method} {c : Code} {g : GE} {U : MU} {W : (Nat → Int64) × (Nat → UInt64)} {Q : Int32 → MU → Prop} (C : zCx p l s m args meth c g RX10 cX10_account 4) (hr : meth.sig.returnType = (Option.some Jvm.ClassFile.FieldType.int)) : ∀ (n : Nat) (x2 : Int32) (x3 : Int32) (u : MU) , wl_X10_account_102   Q n x2 x3 u → WM p l e rm_X10_account s m args below meth c g 4 0 0 (MQ below (zQi g (zPm U W Q)) args s 0 0 (zA g)) 102 [(0, .ref (g.2.2.1 117)), (2, .int x2), (3, .int x3)] [] (U, u, W) := by
  intro n
  induction n with
  | zero => intro _ _ _ h; exact h.elim
  | succ n ih =>
    intro x2 x3 u h
    unfold wl_X10_account_102 at h
    refine zm_iload_n C dX10_account_102 rfl 2 rfl ?_
    refine zm_sipush (v := 1296) C dX10_account_103 (by decide) ?_
    refine zm_icmp_ge (tgt := 137) C dX10_account_106 (by decide) (fun hc_1 => ?_) (fun hc_1 => ?_)
    · have h := h.1 hc_1
      refine zm_iload_n C dX10_account_137 rfl 1 rfl ?_
      exact zm_iret C hr dX10_account_138 ⟨_, rfl, h⟩
    · have h := h.2 hc_1
      refine zm_aload_n C dX10_account_109 rfl 0 rfl ?_
      refine gf_RX10_39 (k1 := 126) C kd_117 rfl dX10_account_110 ?_
      refine zm_iload_n C dX10_account_113 rfl 2 rfl ?_
      obtain ⟨hg_2, h⟩ := h
      refine zq_ld_m C kd_126 ln_126 hg_2 dX10_account_114 ?_
      refine zm_iconst (v := 2) C dX10_account_115 (by decide) ?_
      refine zm_icmp_ne (tgt := 131) C dX10_account_116 (by decide) (fun hc_3 => ?_) (fun hc_3 => ?_)
      · have h := h.1 hc_3
        exact zm_sub [0, 1, 2] rfl (vb_X10_account_131 C hr ih _ _ _ h)
      · have h := h.2 hc_3
        refine zm_aload_n C dX10_account_119 rfl 0 rfl ?_
        refine gf_RX10_42 (k1 := 127) C kd_117 rfl dX10_account_120 ?_
        refine zm_iload_n C dX10_account_123 rfl 2 rfl ?_
        obtain ⟨hg_4, h⟩ := h
        refine zq_ld_m C kd_127 ln_127 hg_4 dX10_account_124 ?_
        refine zm_if_ne (tgt := 131) C dX10_account_125 (by decide) (fun hc_5 => ?_) (fun hc_5 => ?_)
        · have h := h.1 hc_5
          exact zm_sub [0, 1, 2] rfl (vb_X10_account_131 C hr ih _ _ _ h)
        · have h := h.2 hc_5
          obtain ⟨x2_6, hx2_6⟩ : ∃ z, z = x2 + (1 : Int32) := ⟨_, rfl⟩
          have h := h x2_6 hx2_6
          refine zm_iinc (v := x2_6) (lv' := [(2, .int x2_6), (0, .ref (g.2.2.1 117)), (3, .int x3)]) C dX10_account_128 1 rfl (by rw [hx2_6]; rfl) (by decide) rfl ?_
          exact zm_sub [1, 0, 2] rfl (vb_X10_account_131 C hr ih _ _ _ h)
def wl_X10_account_143 (Q : Int32 → MU → Prop) : Nat → Int32 → Int32 → MU → Prop
  | 0, _, _, _ => False
  | n + 1, x2, x3, u => (((1296 : Int32) ≤ x3) → Q x2 u) ∧ ((¬ (1296 : Int32) ≤ x3) → vp_in x3 1296 ∧ (∀ x2_3, x2_3 = (if x2 < (u 127 (x3).toNatClampNeg) then (u 127 (x3).toNatClampNeg) else x2) → ∀ x3_4, x3_4 = x3 + (1 : Int32) → wl_X10_account_143   Q n x2_3 x3_4 u))
set_option maxHeartbeats 4000000 in
set_option maxRecDepth 100000 in
theorem vl_X10_account_143 {p : Program} {l : Launch} {e : Env} {s : State} {m : MethodId} {args : Array Value} {below : List Frame} {meth : Method} {c : Code} {g : GE} {U : MU} {W : (Nat → Int64) × (Nat → UInt64)} {Q : Int32 → MU → Prop} (C : zCx p l s m args meth c g RX10 cX10_account 4) (hr : meth.sig.returnType = (Option.some Jvm.ClassFile.FieldType.int)) : ∀ (n : Nat) (x2 : Int32) (x3 : Int32) (u : MU) , wl_X10_account_143   Q n x2 x3 u → WM p l e rm_X10_account s m args below meth c g 4 0 0 (MQ below (zQi g (zPm U W Q)) args s 0 0 (zA g)) 143 [(0, .ref (g.2.2.1 117)), (2, .int x2), (3, .int x3)] [] (U, u, W) := by
  intro n
  induction n with
  | zero => intro _ _ _ h; exact h.elim
  | succ n ih =>
    intro x2 x3 u h
    unfold wl_X10_account_143 at h
    refine zm_iload_n C dX10_account_143 rfl 2 rfl ?_
    refine zm_sipush (v := 1296) C dX10_account_144 (by decide) ?_
    refine zm_icmp_ge (tgt := 167) C dX10_account_147 (by decide) (fun hc_1 => ?_) (fun hc_1 => ?_)
    · have h := h.1 hc_1
      refine zm_iload_n C dX10_account_167 rfl 1 rfl ?_
      exact zm_iret C hr dX10_account_168 ⟨_, rfl, h⟩
    · have h := h.2 hc_1
      refine zm_iload_n C dX10_account_150 rfl 1 rfl ?_
      refine zm_aload_n C dX10_account_151 rfl 0 rfl ?_
      refine gf_RX10_42 (k1 := 127) C kd_117 rfl dX10_account_152 ?_
      refine zm_iload_n C dX10_account_155 rfl 2 rfl ?_
      obtain ⟨hg_2, h⟩ := h
      refine zq_ld_m C kd_127 ln_127 hg_2 dX10_account_156 ?_
      refine zm_mmax C wd_1319 wd_632 wd_12 wd_633 (Nat.le_of_ble_eq_true rfl) (Nat.le_of_ble_eq_true rfl) (Nat.le_of_ble_eq_true rfl) (Nat.le_of_ble_eq_true rfl) dX10_account_157 ?_
      refine zm_nmI (fun x2_3 hx2_3 => ?_)
      have h := h x2_3 hx2_3
      refine zm_istore_n (lv' := [(2, .int x2_3), (0, .ref (g.2.2.1 117)), (3, .int x3)]) C dX10_account_160 rfl (by decide) rfl ?_
      obtain ⟨x3_4, hx3_4⟩ : ∃ z, z = x3 + (1 : Int32) := ⟨_, rfl⟩
      have h := h x3_4 hx3_4
      refine zm_iinc (v := x3_4) (lv' := [(3, .int x3_4), (2, .int x2_3), (0, .ref (g.2.2.1 117))]) C dX10_account_161 2 rfl (by rw [hx3_4]; rfl) (by decide) rfl ?_
      refine zm_goto (tgt := 143) C dX10_account_164 (by decide) ?_
      exact zm_sub [2, 1, 0] rfl (ih _ _ _ h)
def w_X10_account (x1 : Int32) (u : MU) (Q : Int32 → MU → Prop) : Prop := w_X10_knows  u (fun u_2 => (x1 = (0 : Int32) → vp_in (0 : Int32) 119 ∧ (Q (u_2 118 ((0 : Int32)).toNatClampNeg) u_2)) ∧ (¬ x1 = (0 : Int32) → (x1 = (1 : Int32) → vp_in (3 : Int32) 119 ∧ (Q (u_2 118 ((3 : Int32)).toNatClampNeg) u_2)) ∧ (¬ x1 = (1 : Int32) → (x1 = (2 : Int32) → vp_in (1 : Int32) 119 ∧ (w_J6_bitCount_0f7a4 (u_2 118 ((1 : Int32)).toNatClampNeg) (fun r_10 => Q r_10 u_2))) ∧ (¬ x1 = (2 : Int32) → (x1 = (3 : Int32) → vp_in (2 : Int32) 119 ∧ (Q (u_2 118 ((2 : Int32)).toNatClampNeg) u_2)) ∧ (¬ x1 = (3 : Int32) → (x1 = (4 : Int32) → w_X10_positions u_2 (fun r_15 => Q r_15 u_2)) ∧ (¬ x1 = (4 : Int32) → (x1 = (5 : Int32) → ∃ nn, wl_X10_account_102   Q nn (0 : Int32) (0 : Int32) u_2) ∧ (¬ x1 = (5 : Int32) → (x1 = (6 : Int32) → ∃ nn, wl_X10_account_143   Q nn (-1 : Int32) (0 : Int32) u_2) ∧ (¬ x1 = (6 : Int32) → (x1 = (7 : Int32) → vp_in (4 : Int32) 119 ∧ (((¬ (u_2 118 ((4 : Int32)).toNatClampNeg) = 0) → vp_in (5 : Int32) 119 ∧ (Q (u_2 118 ((5 : Int32)).toNatClampNeg) u_2)) ∧ (((u_2 118 ((4 : Int32)).toNatClampNeg) = 0) → Q (-1 : Int32) u_2))) ∧ (¬ x1 = (7 : Int32) → (x1 = (8 : Int32) → vp_in (6 : Int32) 119 ∧ (Q (u_2 118 ((6 : Int32)).toNatClampNeg) u_2)) ∧ (¬ x1 = (8 : Int32) → (x1 = (9 : Int32) → Q (u_2 117 3) u_2) ∧ (¬ x1 = (9 : Int32) → (x1 = (10 : Int32) → Q (u_2 117 9) u_2) ∧ (¬ x1 = (10 : Int32) → w_X10_raises (1 : Int32) u_2 (fun r_27 u_28 => Q r_27 u_28)))))))))))))
set_option maxHeartbeats 4000000 in
set_option maxRecDepth 100000 in
theorem c_X10_account (l : Launch) (g : GE) (U : MU) (u : MU) (W : (Nat → Int64) × (Nat → UInt64)) (x1 : Int32) {Q : Int32 → MU → Prop} (h : w_X10_account x1 u Q) : Met l yX10_account (.code yX10_account cX10_account 4 (Option.some Jvm.ClassFile.FieldType.int) :: TB) rm_X10_account (zPc g (U, u, W) [.ref (g.2.2.1 117), .int x1]) (zQi g (zPm U W Q)) 0 0 (zA g) := by
  unfold w_X10_account at h
  refine zMet (own := RX10) [(0, .ref (g.2.2.1 117)), (1, .int x1)] (by decide +kernel) rfl (Nat.le_of_ble_eq_true rfl) rfl (fun p e s m args below meth c C hr => ?_)
  refine zm_aload_n C dX10_account_0 rfl 0 rfl ?_
  refine zm_cv (zr_V (As := []) (rest := []) C (c_X10_knows l g U u W  h) wd_1352 wd_1354 wp_55 wd_11 wd_1355 hy_X10_knows rfl rfl ⟨by decide, by decide⟩ ⟨by decide, by decide⟩ (ci := 10) (by decide) (zCell_k kd_117) rfl rfl rfl rfl (Nat.le_of_ble_eq_true rfl) dX10_account_1) (fun M1 hq => ?_)
  obtain ⟨u_2, rfl, h⟩ := hq
  refine zm_iconst (v := 0) C dX10_account_4 (by decide) ?_
  refine zm_istore_n (lv' := [(2, .int (0 : Int32)), (0, .ref (g.2.2.1 117)), (1, .int x1)]) C dX10_account_5 rfl (by decide) rfl ?_
  refine zm_iload_n C dX10_account_6 rfl 2 rfl ?_
  by_cases hc_4 : x1 = (0 : Int32)
  · have h := h.1 hc_4
    refine zm_tableIn (tgt := 64) C dX10_account_7 (by rw [hc_4]; decide) (by rw [hc_4]; decide) (by rw [hc_4]; rfl) (by decide) ?_
    refine zm_aload_n C dX10_account_64 rfl 1 rfl ?_
    refine gf_RX10_9 (k1 := 118) C kd_117 rfl dX10_account_65 ?_
    refine zm_iconst (v := 0) C dX10_account_68 (by decide) ?_
    obtain ⟨hg_5, h⟩ := h
    refine zq_ld_m C kd_118 ln_118 hg_5 dX10_account_69 ?_
    exact zm_iret C hr dX10_account_70 ⟨_, rfl, h⟩
  · have h := h.2 hc_4
    by_cases hc_6 : x1 = (1 : Int32)
    · have h := h.1 hc_6
      refine zm_tableIn (tgt := 71) C dX10_account_7 (by rw [hc_6]; decide) (by rw [hc_6]; decide) (by rw [hc_6]; rfl) (by decide) ?_
      refine zm_aload_n C dX10_account_71 rfl 1 rfl ?_
      refine gf_RX10_9 (k1 := 118) C kd_117 rfl dX10_account_72 ?_
      refine zm_iconst (v := 3) C dX10_account_75 (by decide) ?_
      obtain ⟨hg_7, h⟩ := h
      refine zq_ld_m C kd_118 ln_118 hg_7 dX10_account_76 ?_
      exact zm_iret C hr dX10_account_77 ⟨_, rfl, h⟩
    · have h := h.2 hc_6
      by_cases hc_8 : x1 = (2 : Int32)
      · have h := h.1 hc_8
        refine zm_tableIn (tgt := 78) C dX10_account_7 (by rw [hc_8]; decide) (by rw [hc_8]; decide) (by rw [hc_8]; rfl) (by decide) ?_
        refine zm_aload_n C dX10_account_78 rfl 1 rfl ?_
        refine gf_RX10_9 (k1 := 118) C kd_117 rfl dX10_account_79 ?_
        refine zm_iconst (v := 1) C dX10_account_82 (by decide) ?_
        obtain ⟨hg_9, h⟩ := h
        refine zq_ld_m C kd_118 ln_118 hg_9 dX10_account_83 ?_
        refine zm_ci (zr_Sx (As := [.int (u_2 118 ((1 : Int32)).toNatClampNeg)]) (rest := []) C (c_J6_bitCount_0f7a4 l g (U, u_2, W) (u_2 118 ((1 : Int32)).toNatClampNeg) h) wd_1251 wd_526 wd_18 wd_527 hz_J6_bitCount_0f7a4 rfl rfl ⟨by decide, by decide⟩ ⟨by decide, by decide⟩ rfl rfl (Nat.le_of_ble_eq_true rfl) dX10_account_84) (fun r_10 M1 hq => ?_)
        obtain ⟨rfl, h⟩ := hq
        exact zm_iret C hr dX10_account_87 ⟨_, rfl, h⟩
      · have h := h.2 hc_8
        by_cases hc_12 : x1 = (3 : Int32)
        · have h := h.1 hc_12
          refine zm_tableIn (tgt := 88) C dX10_account_7 (by rw [hc_12]; decide) (by rw [hc_12]; decide) (by rw [hc_12]; rfl) (by decide) ?_
          refine zm_aload_n C dX10_account_88 rfl 1 rfl ?_
          refine gf_RX10_9 (k1 := 118) C kd_117 rfl dX10_account_89 ?_
          refine zm_iconst (v := 2) C dX10_account_92 (by decide) ?_
          obtain ⟨hg_13, h⟩ := h
          refine zq_ld_m C kd_118 ln_118 hg_13 dX10_account_93 ?_
          exact zm_iret C hr dX10_account_94 ⟨_, rfl, h⟩
        · have h := h.2 hc_12
          by_cases hc_14 : x1 = (4 : Int32)
          · have h := h.1 hc_14
            refine zm_tableIn (tgt := 95) C dX10_account_7 (by rw [hc_14]; decide) (by rw [hc_14]; decide) (by rw [hc_14]; rfl) (by decide) ?_
            refine zm_aload_n C dX10_account_95 rfl 1 rfl ?_
            refine zm_ci (zr_V (As := []) (rest := []) C (c_X10_positions l g U u_2 W  h) wd_1460 wd_1462 wp_61 wd_11 wd_1463 hy_X10_positions rfl rfl ⟨by decide, by decide⟩ ⟨by decide, by decide⟩ (ci := 10) (by decide) (zCell_k kd_117) rfl rfl rfl rfl (Nat.le_of_ble_eq_true rfl) dX10_account_96) (fun r_15 M1 hq => ?_)
            obtain ⟨rfl, h⟩ := hq
            exact zm_iret C hr dX10_account_99 ⟨_, rfl, h⟩
          · have h := h.2 hc_14
            by_cases hc_17 : x1 = (5 : Int32)
            · have h := h.1 hc_17
              refine zm_tableIn (tgt := 100) C dX10_account_7 (by rw [hc_17]; decide) (by rw [hc_17]; decide) (by rw [hc_17]; rfl) (by decide) ?_
              refine zm_iconst (v := 0) C dX10_account_100 (by decide) ?_
              refine zm_istore_n (lv' := [(3, .int (0 : Int32)), (2, .int (0 : Int32)), (0, .ref (g.2.2.1 117)), (1, .int x1)]) C dX10_account_101 rfl (by decide) rfl ?_
              obtain ⟨nn, h⟩ := h
              exact zm_sub [2, 1, 0] rfl (vl_X10_account_102 C hr  nn _ _ _ h)
            · have h := h.2 hc_17
              by_cases hc_18 : x1 = (6 : Int32)
              · have h := h.1 hc_18
                refine zm_tableIn (tgt := 139) C dX10_account_7 (by rw [hc_18]; decide) (by rw [hc_18]; decide) (by rw [hc_18]; rfl) (by decide) ?_
                refine zm_iconst (v := -1) C dX10_account_139 (by decide) ?_
                refine zm_istore_n (lv' := [(2, .int (-1 : Int32)), (0, .ref (g.2.2.1 117)), (1, .int x1)]) C dX10_account_140 rfl (by decide) rfl ?_
                refine zm_iconst (v := 0) C dX10_account_141 (by decide) ?_
                refine zm_istore_n (lv' := [(3, .int (0 : Int32)), (2, .int (-1 : Int32)), (0, .ref (g.2.2.1 117)), (1, .int x1)]) C dX10_account_142 rfl (by decide) rfl ?_
                obtain ⟨nn, h⟩ := h
                exact zm_sub [2, 1, 0] rfl (vl_X10_account_143 C hr  nn _ _ _ h)
              · have h := h.2 hc_18
                by_cases hc_19 : x1 = (7 : Int32)
                · have h := h.1 hc_19
                  refine zm_tableIn (tgt := 169) C dX10_account_7 (by rw [hc_19]; decide) (by rw [hc_19]; decide) (by rw [hc_19]; rfl) (by decide) ?_
                  refine zm_aload_n C dX10_account_169 rfl 1 rfl ?_
                  refine gf_RX10_9 (k1 := 118) C kd_117 rfl dX10_account_170 ?_
                  refine zm_iconst (v := 4) C dX10_account_173 (by decide) ?_
                  obtain ⟨hg_20, h⟩ := h
                  refine zq_ld_m C kd_118 ln_118 hg_20 dX10_account_174 ?_
                  refine zm_if_ne (tgt := 182) C dX10_account_175 (by decide) (fun hc_21 => ?_) (fun hc_21 => ?_)
                  · have h := h.1 hc_21
                    refine zm_aload_n C dX10_account_182 rfl 1 rfl ?_
                    refine gf_RX10_9 (k1 := 118) C kd_117 rfl dX10_account_183 ?_
                    refine zm_iconst (v := 5) C dX10_account_186 (by decide) ?_
                    obtain ⟨hg_22, h⟩ := h
                    refine zq_ld_m C kd_118 ln_118 hg_22 dX10_account_187 ?_
                    exact zm_iret C hr dX10_account_188 ⟨_, rfl, h⟩
                  · have h := h.2 hc_21
                    refine zm_iconst (v := -1) C dX10_account_178 (by decide) ?_
                    refine zm_goto (tgt := 188) C dX10_account_179 (by decide) ?_
                    exact zm_iret C hr dX10_account_188 ⟨_, rfl, h⟩
                · have h := h.2 hc_19
                  by_cases hc_23 : x1 = (8 : Int32)
                  · have h := h.1 hc_23
                    refine zm_tableIn (tgt := 189) C dX10_account_7 (by rw [hc_23]; decide) (by rw [hc_23]; decide) (by rw [hc_23]; rfl) (by decide) ?_
                    refine zm_aload_n C dX10_account_189 rfl 1 rfl ?_
                    refine gf_RX10_9 (k1 := 118) C kd_117 rfl dX10_account_190 ?_
                    refine zm_bipush (v := 6) C dX10_account_193 (by decide) ?_
                    obtain ⟨hg_24, h⟩ := h
                    refine zq_ld_m C kd_118 ln_118 hg_24 dX10_account_195 ?_
                    exact zm_iret C hr dX10_account_196 ⟨_, rfl, h⟩
                  · have h := h.2 hc_23
                    by_cases hc_25 : x1 = (9 : Int32)
                    · have h := h.1 hc_25
                      refine zm_tableIn (tgt := 197) C dX10_account_7 (by rw [hc_25]; decide) (by rw [hc_25]; decide) (by rw [hc_25]; rfl) (by decide) ?_
                      refine zm_aload_n C dX10_account_197 rfl 1 rfl ?_
                      refine gf_RX10_65 C kd_117 dX10_account_198 ?_
                      exact zm_iret C hr dX10_account_201 ⟨_, rfl, h⟩
                    · have h := h.2 hc_25
                      by_cases hc_26 : x1 = (10 : Int32)
                      · have h := h.1 hc_26
                        refine zm_tableIn (tgt := 202) C dX10_account_7 (by rw [hc_26]; decide) (by rw [hc_26]; decide) (by rw [hc_26]; rfl) (by decide) ?_
                        refine zm_aload_n C dX10_account_202 rfl 1 rfl ?_
                        refine gf_RX10_204 C kd_117 dX10_account_203 ?_
                        exact zm_iret C hr dX10_account_206 ⟨_, rfl, h⟩
                      · have h := h.2 hc_26
                        have n0 := lv_neT (a := 0) hc_4 rfl
                        have n1 := lv_neT (a := 1) hc_6 rfl
                        have n2 := lv_neT (a := 2) hc_8 rfl
                        have n3 := lv_neT (a := 3) hc_12 rfl
                        have n4 := lv_neT (a := 4) hc_14 rfl
                        have n5 := lv_neT (a := 5) hc_17 rfl
                        have n6 := lv_neT (a := 6) hc_18 rfl
                        have n7 := lv_neT (a := 7) hc_19 rfl
                        have n8 := lv_neT (a := 8) hc_23 rfl
                        have n9 := lv_neT (a := 9) hc_25 rfl
                        have n10 := lv_neT (a := 10) hc_26 rfl
                        refine zm_tableOut (tgt := 207) C dX10_account_7 (by omega) (by decide) ?_
                        refine zm_aload_n C dX10_account_207 rfl 1 rfl ?_
                        refine zm_iconst (v := 1) C dX10_account_208 (by decide) ?_
                        refine zm_ci (zr_V (As := [.int (1 : Int32)]) (rest := []) C (c_X10_raises l g U u_2 W (1 : Int32) h) wd_1204 wd_1206 wp_34 wd_11 wd_1207 hy_X10_raises rfl rfl ⟨by decide, by decide⟩ ⟨by decide, by decide⟩ (ci := 10) (by decide) (zCell_k kd_117) rfl rfl rfl rfl (Nat.le_of_ble_eq_true rfl) dX10_account_209) (fun r_27 M1 hq => ?_)
                        obtain ⟨u_28, rfl, h⟩ := hq
                        exact zm_iret C hr dX10_account_212 ⟨_, rfl, h⟩
abbrev rm_X10_undo : Room := { frames := 1, cells := 0, slots := 0, locals := 21 }
def wl_X10_undo_35 (Q : Int32 → MU → Prop) : Nat → Int32 → MU → Prop
  | 0, _, _ => False
  | n + 1, x1, u => (((119 : Int32) ≤ x1) → Q (u 117 3) u) ∧ ((¬ (119 : Int32) ≤ x1) → vp_in (((119 : Int32) * (u 117 3)) + x1) 952 ∧ (vp_in x1 119 ∧ (∀ u_4, u_4 = u2 u 118 (x1).toNatClampNeg (u 120 ((((119 : Int32) * (u 117 3)) + x1)).toNatClampNeg) → ∀ x1_5, x1_5 = x1 + (1 : Int32) → wl_X10_undo_35   Q n x1_5 u_4)))
set_option maxHeartbeats 4000000 in
set_option maxRecDepth 100000 in
theorem vl_X10_undo_35 {p : Program} {l : Launch} {e : Env} {s : State} {m : MethodId} {args : Array Value} {below : List Frame} {meth : Method} {c : Code} {g : GE} {U : MU} {W : (Nat → Int64) × (Nat → UInt64)} {Q : Int32 → MU → Prop} (C : zCx p l s m args meth c g RX10 cX10_undo 2) (hr : meth.sig.returnType = (Option.some Jvm.ClassFile.FieldType.int)) : ∀ (n : Nat) (x1 : Int32) (u : MU) , wl_X10_undo_35   Q n x1 u → WM p l e rm_X10_undo s m args below meth c g 2 0 0 (MQ below (zQi g (zPm U W Q)) args s 0 0 (zA g)) 35 [(0, .ref (g.2.2.1 117)), (1, .int x1)] [] (U, u, W) := by
  intro n
  induction n with
  | zero => intro _ _ h; exact h.elim
  | succ n ih =>
    intro x1 u h
    unfold wl_X10_undo_35 at h
    refine zm_iload_n C dX10_undo_35 rfl 1 rfl ?_
    refine zm_bipush (v := 119) C dX10_undo_36 (by decide) ?_
    refine zm_icmp_ge (tgt := 67) C dX10_undo_38 (by decide) (fun hc_1 => ?_) (fun hc_1 => ?_)
    · have h := h.1 hc_1
      refine zm_aload_n C dX10_undo_67 rfl 0 rfl ?_
      refine gf_RX10_65 C kd_117 dX10_undo_68 ?_
      exact zm_iret C hr dX10_undo_71 ⟨_, rfl, h⟩
    · have h := h.2 hc_1
      refine zm_aload_n C dX10_undo_41 rfl 0 rfl ?_
      refine gf_RX10_9 (k1 := 118) C kd_117 rfl dX10_undo_42 ?_
      refine zm_iload_n C dX10_undo_45 rfl 1 rfl ?_
      refine zm_aload_n C dX10_undo_46 rfl 0 rfl ?_
      refine gf_RX10_16 (k1 := 120) C kd_117 rfl dX10_undo_47 ?_
      refine zm_bipush (v := 119) C dX10_undo_50 (by decide) ?_
      refine zm_aload_n C dX10_undo_52 rfl 0 rfl ?_
      refine gf_RX10_65 C kd_117 dX10_undo_53 ?_
      refine zm_imul C dX10_undo_56 ?_
      refine zm_iload_n C dX10_undo_57 rfl 1 rfl ?_
      refine zm_iadd C dX10_undo_58 ?_
      obtain ⟨hg_2, h⟩ := h
      refine zq_ld_m C kd_120 ln_120 hg_2 dX10_undo_59 ?_
      obtain ⟨hg_3, h⟩ := h
      refine zq_st_m C kd_118 ln_118 hg_3 dX10_undo_60 (fun u_4 hu_4 => ?_)
      have h := h u_4 hu_4
      obtain ⟨x1_5, hx1_5⟩ : ∃ z, z = x1 + (1 : Int32) := ⟨_, rfl⟩
      have h := h x1_5 hx1_5
      refine zm_iinc (v := x1_5) (lv' := [(1, .int x1_5), (0, .ref (g.2.2.1 117))]) C dX10_undo_61 1 rfl (by rw [hx1_5]; rfl) (by decide) rfl ?_
      refine zm_goto (tgt := 35) C dX10_undo_64 (by decide) ?_
      exact zm_sub [1, 0] rfl (ih _ _ h)
def w_X10_undo (u : MU) (Q : Int32 → MU → Prop) : Prop := (∀ u_1, u_1 = u2 u 117 17 (0 : Int32) → ((¬ (u_1 117 3) = 0) → (∀ u_3, u_3 = u2 u_1 117 22 (0 : Int32) → (∀ u_4, u_4 = u2 u_3 117 3 ((u_3 117 3) - (1 : Int32)) → ∃ nn, wl_X10_undo_35   Q nn (0 : Int32) u_4))) ∧ (((u_1 117 3) = 0) → w_X10_raises (1 : Int32) u_1 (fun r_5 u_6 => Q r_5 u_6)))
set_option maxHeartbeats 4000000 in
set_option maxRecDepth 100000 in
theorem c_X10_undo (l : Launch) (g : GE) (U : MU) (u : MU) (W : (Nat → Int64) × (Nat → UInt64)) {Q : Int32 → MU → Prop} (h : w_X10_undo u Q) : Met l yX10_undo (.code yX10_undo cX10_undo 2 (Option.some Jvm.ClassFile.FieldType.int) :: TB) rm_X10_undo (zPc g (U, u, W) [.ref (g.2.2.1 117)]) (zQi g (zPm U W Q)) 0 0 (zA g) := by
  unfold w_X10_undo at h
  refine zMet (own := RX10) [(0, .ref (g.2.2.1 117))] (by decide +kernel) rfl (Nat.le_of_ble_eq_true rfl) rfl (fun p e s m args below meth c C hr => ?_)
  refine zm_aload_n C dX10_undo_0 rfl 0 rfl ?_
  refine zm_iconst (v := 0) C dX10_undo_1 (by decide) ?_
  refine pf_RX10_54 C kd_117  dX10_undo_2 (fun u_1 hu_1 => ?_)
  have h := h u_1 hu_1
  refine zm_aload_n C dX10_undo_5 rfl 0 rfl ?_
  refine gf_RX10_65 C kd_117 dX10_undo_6 ?_
  refine zm_if_ne (tgt := 18) C dX10_undo_9 (by decide) (fun hc_2 => ?_) (fun hc_2 => ?_)
  · have h := h.1 hc_2
    refine zm_aload_n C dX10_undo_18 rfl 0 rfl ?_
    refine zm_iconst (v := 0) C dX10_undo_19 (by decide) ?_
    refine pf_RX10_57 C kd_117 (by decide) (by decide) dX10_undo_20 (fun u_3 hu_3 => ?_)
    have h := h u_3 hu_3
    refine zm_aload_n C dX10_undo_23 rfl 0 rfl ?_
    refine zm_dup C dX10_undo_24 rfl ?_
    refine gf_RX10_65 C kd_117 dX10_undo_25 ?_
    refine zm_iconst (v := 1) C dX10_undo_28 (by decide) ?_
    refine zm_isub C dX10_undo_29 ?_
    refine pf_RX10_65 C kd_117  dX10_undo_30 (fun u_4 hu_4 => ?_)
    have h := h u_4 hu_4
    refine zm_iconst (v := 0) C dX10_undo_33 (by decide) ?_
    refine zm_istore_n (lv' := [(1, .int (0 : Int32)), (0, .ref (g.2.2.1 117))]) C dX10_undo_34 rfl (by decide) rfl ?_
    obtain ⟨nn, h⟩ := h
    exact zm_sub [1, 0] rfl (vl_X10_undo_35 C hr  nn _ _ h)
  · have h := h.2 hc_2
    refine zm_aload_n C dX10_undo_12 rfl 0 rfl ?_
    refine zm_iconst (v := 1) C dX10_undo_13 (by decide) ?_
    refine zm_ci (zr_V (As := [.int (1 : Int32)]) (rest := []) C (c_X10_raises l g U u_1 W (1 : Int32) h) wd_1204 wd_1206 wp_34 wd_11 wd_1207 hy_X10_raises rfl rfl ⟨by decide, by decide⟩ ⟨by decide, by decide⟩ (ci := 10) (by decide) (zCell_k kd_117) rfl rfl rfl rfl (Nat.le_of_ble_eq_true rfl) dX10_undo_14) (fun r_5 M1 hq => ?_)
    obtain ⟨u_6, rfl, h⟩ := hq
    exact zm_iret C hr dX10_undo_17 ⟨_, rfl, h⟩
