
def wl_R_lawe_177 (xs : Nat → Int32) (L : Nat) (Q : Prop) : Nat → Int32 → (MU) → Prop
  | 0, _, _ => False
  | n + 1, x2, u => (((16 : Int32) ≤ x2) → w_R_tread (0 : Int32) (4 : Int32) u (fun r_2 u_3 => ((¬ r_2 = (-1001 : Int32)) → False) ∧ ((r_2 = (-1001 : Int32)) → w_R_is (2 : Int32) (16 : Int32) (0 : Int32) u_3 (fun r_5 u_6 => ((r_5 = 0) → False) ∧ ((¬ r_5 = 0) → w_R_account (9 : Int32) u_6 (fun r_8 u_9 => ((¬ r_8 = (8 : Int32)) → False) ∧ ((r_8 = (8 : Int32)) → w_R_account (4 : Int32) u_9 (fun r_11 u_12 => ((¬ r_11 = (336 : Int32)) → False) ∧ ((r_11 = (336 : Int32)) → w_R_burrowOf (0 : Int32) (0 : Int32) u_12 (fun r_14 u_15 => ((¬ r_14 = (4 : Int32)) → False) ∧ ((r_14 = (4 : Int32)) → w_R_burrowOf (7 : Int32) (1 : Int32) u_15 (fun r_17 u_18 => ((¬ r_17 = 0) → False) ∧ ((r_17 = 0) → w_R_grow (0 : Int32) (2 : Int32) u_18 (fun r_20 u_21 => ((¬ r_20 = (15 : Int32)) → False) ∧ ((r_20 = (15 : Int32)) → w_R_pathOf (8 : Int32) (0 : Int32) u_21 (fun r_23 u_24 => ((¬ r_23 = (1 : Int32)) → False) ∧ ((r_23 = (1 : Int32)) → w_R_pathOf (8 : Int32) (1 : Int32) u_24 (fun r_26 u_27 => ((¬ r_26 = (3 : Int32)) → False) ∧ ((r_26 = (3 : Int32)) → w_R_pathOf (14 : Int32) (1 : Int32) u_27 (fun r_29 u_30 => ((r_29 = (1 : Int32)) → w_R_undo  u_30 (fun r_32 u_33 => ((¬ r_32 = (7 : Int32)) → False) ∧ ((r_32 = (7 : Int32)) → w_R_account (1 : Int32) u_33 (fun r_35 u_36 => ((¬ r_35 = (16 : Int32)) → False) ∧ ((r_35 = (16 : Int32)) → w_R_undo  u_36 (fun r_38 u_39 => ((¬ r_38 = (6 : Int32)) → False) ∧ ((r_38 = (6 : Int32)) → w_R_undo  u_39 (fun r_41 u_42 => ((¬ r_41 = (5 : Int32)) → False) ∧ ((r_41 = (5 : Int32)) → w_R_undo  u_42 (fun r_44 u_45 => ((¬ r_44 = (4 : Int32)) → False) ∧ ((r_44 = (4 : Int32)) → w_R_undo  u_45 (fun r_47 u_48 => ((¬ r_47 = (3 : Int32)) → False) ∧ ((r_47 = (3 : Int32)) → w_R_undo  u_48 (fun r_50 u_51 => ((¬ r_50 = (2 : Int32)) → False) ∧ ((r_50 = (2 : Int32)) → w_R_undo  u_51 (fun r_53 u_54 => ((¬ r_53 = (1 : Int32)) → False) ∧ ((r_53 = (1 : Int32)) → w_R_undo  u_54 (fun r_56 u_57 => ((¬ r_56 = 0) → False) ∧ ((r_56 = 0) → w_R_account (1 : Int32) u_57 (fun r_59 u_60 => ((¬ r_59 = (9 : Int32)) → False) ∧ ((r_59 = (9 : Int32)) → w_R_undo  u_60 (fun r_62 u_63 => ((r_62 = (-1001 : Int32)) → w_R_restore  u_63 (fun r_65 u_66 => ((¬ r_65 = 0) → False) ∧ ((r_65 = 0) → w_R_account (0 : Int32) u_66 (fun r_68 u_69 => ((¬ r_68 = 0) → False) ∧ ((r_68 = 0) → w_R_account (3 : Int32) u_69 (fun r_71 u_72 => ((¬ r_71 = (1 : Int32)) → False) ∧ ((r_71 = (1 : Int32)) → w_R_undo  u_72 (fun r_74 u_75 => ((r_74 = (-1001 : Int32)) → Q) ∧ ((¬ r_74 = (-1001 : Int32)) → False))))))))) ∧ ((¬ r_62 = (-1001 : Int32)) → False))))))))))))))))))))))) ∧ ((¬ r_29 = (1 : Int32)) → False))))))))))))))))))))) ∧ ((¬ (16 : Int32) ≤ x2) → w_R_tread (x2 - x2 / (8 : Int32) * (8 : Int32)) (((x2 + (1 : Int32)) + (x2 / (8 : Int32))) - ((x2 + (1 : Int32)) + (x2 / (8 : Int32))) / (8 : Int32) * (8 : Int32)) u (fun r_77 u_78 => ((r_77 = x2) → ∀ x2_80, x2_80 = x2 + (1 : Int32) → wl_R_lawe_177 xs L Q n x2_80 u_78) ∧ ((¬ r_77 = x2) → False)))
set_option maxHeartbeats 4000000 in
set_option maxRecDepth 100000 in
theorem vl_R_lawe_177 {p : Program} {l : Launch} {e : Env} {s : State} {m : MethodId} {args : Array Value} {below : List Frame} {meth : Method} {c : Code} {g : GE} {W : MU × ((Nat → Int64) × (Nat → UInt64))} {Qz : State → Prop} {Q : Prop} {xs : Nat → Int32} {L : Nat} (hxs : g.2.2.2.2.2.1.2.2 = xs) (hLL : g.2.2.2.2.2.1.2.1 = L) (hstk : l.stackTraces = false) (C : zCx p l s m args meth c g RL cL_law 11) (hend : Q → ∀ (u : MU) (cz sz : Nat), cz + 300000 ≤ 600312 → sz + 1800000 ≤ 7292578 → WM p l e room_1 s m args below meth c g 11 cz sz Qz 458 [(0, .ref g.2.2.2.2.2.1.1)] [] (u, W)) : ∀ (n : Nat) (x2 : Int32) (u : MU) (cz sz : Nat), cz + (300028 + n * 1 + 0) ≤ 600312 → sz + 6 * (300028 + n * 1 + 0) ≤ 7292578 → wl_R_lawe_177 xs L Q n x2 u → WM p l e room_1 s m args below meth c g 11 cz sz Qz 177 [(0, .ref g.2.2.2.2.2.1.1), (1, .ref (g.2.2.1 0)), (2, .int x2)] [] (u, W) := by
  intro n
  induction n with
  | zero => intro _ _ _ _ _ _ h; exact h.elim
  | succ n ih =>
    intro x2 u cz sz hz hs h
    unfold wl_R_lawe_177 at h
    refine zm_iload_n C dL_law_177 rfl 2 rfl ?_
    refine zm_bipush (v := 16) C dL_law_178 (by decide) ?_
    refine zm_icmp_ge (tgt := 214) C dL_law_180 (by decide) (fun hc_1 => ?_) (fun hc_1 => ?_)
    · have h := h.1 hc_1
      refine zm_aload_n C dL_law_214 rfl 1 rfl ?_
      refine zm_iconst (v := 0) C dL_law_215 (by decide) ?_
      refine zm_iconst (v := 4) C dL_law_216 (by decide) ?_
      refine zm_ci (zr_SW (As := [.ref (g.2.2.1 0), .int (0 : Int32), .int (4 : Int32)]) (rest := []) C (c_L_tread l hstk _ u W (0 : Int32) (4 : Int32) h) wd_449 wd_450 wd_0 wd_451 hz_L_tread rfl rfl ⟨by decide, by decide⟩ ⟨(show cz + 1 ≤ 600312 by omega), (show sz + 6 ≤ 7292578 by omega)⟩ rfl rfl (Nat.le_of_ble_eq_true rfl) dL_law_217) (fun r_2 M1 hq => ?_)
      obtain ⟨u_3, rfl, h⟩ := hq
      refine zm_sipush (v := -1001) C dL_law_220 (by decide) ?_
      refine zm_icmp_ne (tgt := 323) C dL_law_223 (by decide) (fun hc_4 => ?_) (fun hc_4 => ?_)
      · have h := h.1 hc_4
        refine zm_iconst (v := 0) C dL_law_323 (by decide) ?_
        exact h.elim
      · have h := h.2 hc_4
        refine zm_aload_n C dL_law_226 rfl 1 rfl ?_
        refine zm_iconst (v := 2) C dL_law_227 (by decide) ?_
        refine zm_bipush (v := 16) C dL_law_228 (by decide) ?_
        refine zm_iconst (v := 0) C dL_law_230 (by decide) ?_
        refine zm_ci (zr_S (As := [.ref (g.2.2.1 0), .int (2 : Int32), .int (16 : Int32), .int (0 : Int32)]) (rest := []) C (c_L_is l hstk _ u_3 W (2 : Int32) (16 : Int32) (0 : Int32) h) wd_863 wd_864 wd_0 wd_865 hy_L_is rfl rfl ⟨by decide, by decide⟩ ⟨(show (cz + 1) + 3 ≤ 600312 by omega), (show (sz + 6) + 18 ≤ 7292578 by omega)⟩ rfl rfl (Nat.le_of_ble_eq_true rfl) dL_law_231) (fun r_5 M1 hq => ?_)
        obtain ⟨u_6, rfl, h⟩ := hq
        refine zm_if_eq (tgt := 323) C dL_law_234 (by decide) (fun hc_7 => ?_) (fun hc_7 => ?_)
        · have h := h.1 hc_7
          refine zm_iconst (v := 0) C dL_law_323 (by decide) ?_
          exact h.elim
        · have h := h.2 hc_7
          refine zm_aload_n C dL_law_237 rfl 1 rfl ?_
          refine zm_bipush (v := 9) C dL_law_238 (by decide) ?_
          refine zm_ci (zr_SW (As := [.ref (g.2.2.1 0), .int (9 : Int32)]) (rest := []) C (c_L_account l hstk _ u_6 W (9 : Int32) h) wd_823 wd_824 wd_0 wd_825 hz_L_account rfl rfl ⟨by decide, by decide⟩ ⟨(show (cz + 4) + 1 ≤ 600312 by omega), (show (sz + 24) + 6 ≤ 7292578 by omega)⟩ rfl rfl (Nat.le_of_ble_eq_true rfl) dL_law_240) (fun r_8 M1 hq => ?_)
          obtain ⟨u_9, rfl, h⟩ := hq
          refine zm_bipush (v := 8) C dL_law_243 (by decide) ?_
          refine zm_icmp_ne (tgt := 323) C dL_law_245 (by decide) (fun hc_10 => ?_) (fun hc_10 => ?_)
          · have h := h.1 hc_10
            refine zm_iconst (v := 0) C dL_law_323 (by decide) ?_
            exact h.elim
          · have h := h.2 hc_10
            refine zm_aload_n C dL_law_248 rfl 1 rfl ?_
            refine zm_iconst (v := 4) C dL_law_249 (by decide) ?_
            refine zm_ci (zr_SW (As := [.ref (g.2.2.1 0), .int (4 : Int32)]) (rest := []) C (c_L_account l hstk _ u_9 W (4 : Int32) h) wd_823 wd_824 wd_0 wd_825 hz_L_account rfl rfl ⟨by decide, by decide⟩ ⟨(show (cz + 5) + 1 ≤ 600312 by omega), (show (sz + 30) + 6 ≤ 7292578 by omega)⟩ rfl rfl (Nat.le_of_ble_eq_true rfl) dL_law_250) (fun r_11 M1 hq => ?_)
            obtain ⟨u_12, rfl, h⟩ := hq
            refine zm_sipush (v := 336) C dL_law_253 (by decide) ?_
            refine zm_icmp_ne (tgt := 323) C dL_law_256 (by decide) (fun hc_13 => ?_) (fun hc_13 => ?_)
            · have h := h.1 hc_13
              refine zm_iconst (v := 0) C dL_law_323 (by decide) ?_
              exact h.elim
            · have h := h.2 hc_13
              refine zm_aload_n C dL_law_259 rfl 1 rfl ?_
              refine zm_iconst (v := 0) C dL_law_260 (by decide) ?_
              refine zm_iconst (v := 0) C dL_law_261 (by decide) ?_
              refine zm_ci (zr_SW (As := [.ref (g.2.2.1 0), .int (0 : Int32), .int (0 : Int32)]) (rest := []) C (c_L_burrowOf l hstk _ u_12 W (0 : Int32) (0 : Int32) h) wd_515 wd_516 wd_0 wd_517 hz_L_burrowOf rfl rfl ⟨by decide, by decide⟩ ⟨(show (cz + 6) + 1 ≤ 600312 by omega), (show (sz + 36) + 6 ≤ 7292578 by omega)⟩ rfl rfl (Nat.le_of_ble_eq_true rfl) dL_law_262) (fun r_14 M1 hq => ?_)
              obtain ⟨u_15, rfl, h⟩ := hq
              refine zm_iconst (v := 4) C dL_law_265 (by decide) ?_
              refine zm_icmp_ne (tgt := 323) C dL_law_266 (by decide) (fun hc_16 => ?_) (fun hc_16 => ?_)
              · have h := h.1 hc_16
                refine zm_iconst (v := 0) C dL_law_323 (by decide) ?_
                exact h.elim
              · have h := h.2 hc_16
                refine zm_aload_n C dL_law_269 rfl 1 rfl ?_
                refine zm_bipush (v := 7) C dL_law_270 (by decide) ?_
                refine zm_iconst (v := 1) C dL_law_272 (by decide) ?_
                refine zm_ci (zr_SW (As := [.ref (g.2.2.1 0), .int (7 : Int32), .int (1 : Int32)]) (rest := []) C (c_L_burrowOf l hstk _ u_15 W (7 : Int32) (1 : Int32) h) wd_515 wd_516 wd_0 wd_517 hz_L_burrowOf rfl rfl ⟨by decide, by decide⟩ ⟨(show (cz + 7) + 1 ≤ 600312 by omega), (show (sz + 42) + 6 ≤ 7292578 by omega)⟩ rfl rfl (Nat.le_of_ble_eq_true rfl) dL_law_273) (fun r_17 M1 hq => ?_)
                obtain ⟨u_18, rfl, h⟩ := hq
                refine zm_if_ne (tgt := 323) C dL_law_276 (by decide) (fun hc_19 => ?_) (fun hc_19 => ?_)
                · have h := h.1 hc_19
                  refine zm_iconst (v := 0) C dL_law_323 (by decide) ?_
                  exact h.elim
                · have h := h.2 hc_19
                  refine zm_aload_n C dL_law_279 rfl 1 rfl ?_
                  refine zm_iconst (v := 0) C dL_law_280 (by decide) ?_
                  refine zm_iconst (v := 2) C dL_law_281 (by decide) ?_
                  refine zm_ci (zr_SW (As := [.ref (g.2.2.1 0), .int (0 : Int32), .int (2 : Int32)]) (rest := []) C (c_L_grow l hstk _ u_18 W (0 : Int32) (2 : Int32) h) wd_489 wd_490 wd_0 wd_491 hz_L_grow rfl rfl ⟨by decide, by decide⟩ ⟨(show (cz + 8) + 1 ≤ 600312 by omega), (show (sz + 48) + 6 ≤ 7292578 by omega)⟩ rfl rfl (Nat.le_of_ble_eq_true rfl) dL_law_282) (fun r_20 M1 hq => ?_)
                  obtain ⟨u_21, rfl, h⟩ := hq
                  refine zm_bipush (v := 15) C dL_law_285 (by decide) ?_
                  refine zm_icmp_ne (tgt := 323) C dL_law_287 (by decide) (fun hc_22 => ?_) (fun hc_22 => ?_)
                  · have h := h.1 hc_22
                    refine zm_iconst (v := 0) C dL_law_323 (by decide) ?_
                    exact h.elim
                  · have h := h.2 hc_22
                    refine zm_aload_n C dL_law_290 rfl 1 rfl ?_
                    refine zm_bipush (v := 8) C dL_law_291 (by decide) ?_
                    refine zm_iconst (v := 0) C dL_law_293 (by decide) ?_
                    refine zm_ci (zr_SW (As := [.ref (g.2.2.1 0), .int (8 : Int32), .int (0 : Int32)]) (rest := []) C (c_L_pathOf l hstk _ u_21 W (8 : Int32) (0 : Int32) h) wd_696 wd_697 wd_0 wd_698 hz_L_pathOf rfl rfl ⟨by decide, by decide⟩ ⟨(show (cz + 9) + 1 ≤ 600312 by omega), (show (sz + 54) + 6 ≤ 7292578 by omega)⟩ rfl rfl (Nat.le_of_ble_eq_true rfl) dL_law_294) (fun r_23 M1 hq => ?_)
                    obtain ⟨u_24, rfl, h⟩ := hq
                    refine zm_iconst (v := 1) C dL_law_297 (by decide) ?_
                    refine zm_icmp_ne (tgt := 323) C dL_law_298 (by decide) (fun hc_25 => ?_) (fun hc_25 => ?_)
                    · have h := h.1 hc_25
                      refine zm_iconst (v := 0) C dL_law_323 (by decide) ?_
                      exact h.elim
                    · have h := h.2 hc_25
                      refine zm_aload_n C dL_law_301 rfl 1 rfl ?_
                      refine zm_bipush (v := 8) C dL_law_302 (by decide) ?_
                      refine zm_iconst (v := 1) C dL_law_304 (by decide) ?_
                      refine zm_ci (zr_SW (As := [.ref (g.2.2.1 0), .int (8 : Int32), .int (1 : Int32)]) (rest := []) C (c_L_pathOf l hstk _ u_24 W (8 : Int32) (1 : Int32) h) wd_696 wd_697 wd_0 wd_698 hz_L_pathOf rfl rfl ⟨by decide, by decide⟩ ⟨(show (cz + 10) + 1 ≤ 600312 by omega), (show (sz + 60) + 6 ≤ 7292578 by omega)⟩ rfl rfl (Nat.le_of_ble_eq_true rfl) dL_law_305) (fun r_26 M1 hq => ?_)
                      obtain ⟨u_27, rfl, h⟩ := hq
                      refine zm_iconst (v := 3) C dL_law_308 (by decide) ?_
                      refine zm_icmp_ne (tgt := 323) C dL_law_309 (by decide) (fun hc_28 => ?_) (fun hc_28 => ?_)
                      · have h := h.1 hc_28
                        refine zm_iconst (v := 0) C dL_law_323 (by decide) ?_
                        exact h.elim
                      · have h := h.2 hc_28
                        refine zm_aload_n C dL_law_312 rfl 1 rfl ?_
                        refine zm_bipush (v := 14) C dL_law_313 (by decide) ?_
                        refine zm_iconst (v := 1) C dL_law_315 (by decide) ?_
                        refine zm_ci (zr_SW (As := [.ref (g.2.2.1 0), .int (14 : Int32), .int (1 : Int32)]) (rest := []) C (c_L_pathOf l hstk _ u_27 W (14 : Int32) (1 : Int32) h) wd_696 wd_697 wd_0 wd_698 hz_L_pathOf rfl rfl ⟨by decide, by decide⟩ ⟨(show (cz + 11) + 1 ≤ 600312 by omega), (show (sz + 66) + 6 ≤ 7292578 by omega)⟩ rfl rfl (Nat.le_of_ble_eq_true rfl) dL_law_316) (fun r_29 M1 hq => ?_)
                        obtain ⟨u_30, rfl, h⟩ := hq
                        refine zm_iconst (v := 1) C dL_law_319 (by decide) ?_
                        refine zm_icmp_eq (tgt := 325) C dL_law_320 (by decide) (fun hc_31 => ?_) (fun hc_31 => ?_)
                        · have h := h.1 hc_31
                          refine zm_aload_n C dL_law_325 rfl 1 rfl ?_
                          refine zm_ci (zr_SW (As := [.ref (g.2.2.1 0)]) (rest := []) C (c_L_undo l hstk _ u_30 W  h) wd_843 wd_844 wd_0 wd_845 hz_L_undo rfl rfl ⟨by decide, by decide⟩ ⟨(show (cz + 12) + 1 ≤ 600312 by omega), (show (sz + 72) + 6 ≤ 7292578 by omega)⟩ rfl rfl (Nat.le_of_ble_eq_true rfl) dL_law_326) (fun r_32 M1 hq => ?_)
                          obtain ⟨u_33, rfl, h⟩ := hq
                          refine zm_bipush (v := 7) C dL_law_329 (by decide) ?_
                          refine zm_icmp_ne (tgt := 420) C dL_law_331 (by decide) (fun hc_34 => ?_) (fun hc_34 => ?_)
                          · have h := h.1 hc_34
                            refine zm_iconst (v := 0) C dL_law_420 (by decide) ?_
                            exact h.elim
                          · have h := h.2 hc_34
                            refine zm_aload_n C dL_law_334 rfl 1 rfl ?_
                            refine zm_iconst (v := 1) C dL_law_335 (by decide) ?_
                            refine zm_ci (zr_SW (As := [.ref (g.2.2.1 0), .int (1 : Int32)]) (rest := []) C (c_L_account l hstk _ u_33 W (1 : Int32) h) wd_823 wd_824 wd_0 wd_825 hz_L_account rfl rfl ⟨by decide, by decide⟩ ⟨(show (cz + 13) + 1 ≤ 600312 by omega), (show (sz + 78) + 6 ≤ 7292578 by omega)⟩ rfl rfl (Nat.le_of_ble_eq_true rfl) dL_law_336) (fun r_35 M1 hq => ?_)
                            obtain ⟨u_36, rfl, h⟩ := hq
                            refine zm_bipush (v := 16) C dL_law_339 (by decide) ?_
                            refine zm_icmp_ne (tgt := 420) C dL_law_341 (by decide) (fun hc_37 => ?_) (fun hc_37 => ?_)
                            · have h := h.1 hc_37
                              refine zm_iconst (v := 0) C dL_law_420 (by decide) ?_
                              exact h.elim
                            · have h := h.2 hc_37
                              refine zm_aload_n C dL_law_344 rfl 1 rfl ?_
                              refine zm_ci (zr_SW (As := [.ref (g.2.2.1 0)]) (rest := []) C (c_L_undo l hstk _ u_36 W  h) wd_843 wd_844 wd_0 wd_845 hz_L_undo rfl rfl ⟨by decide, by decide⟩ ⟨(show (cz + 14) + 1 ≤ 600312 by omega), (show (sz + 84) + 6 ≤ 7292578 by omega)⟩ rfl rfl (Nat.le_of_ble_eq_true rfl) dL_law_345) (fun r_38 M1 hq => ?_)
                              obtain ⟨u_39, rfl, h⟩ := hq
                              refine zm_bipush (v := 6) C dL_law_348 (by decide) ?_
                              refine zm_icmp_ne (tgt := 420) C dL_law_350 (by decide) (fun hc_40 => ?_) (fun hc_40 => ?_)
                              · have h := h.1 hc_40
                                refine zm_iconst (v := 0) C dL_law_420 (by decide) ?_
                                exact h.elim
                              · have h := h.2 hc_40
                                refine zm_aload_n C dL_law_353 rfl 1 rfl ?_
                                refine zm_ci (zr_SW (As := [.ref (g.2.2.1 0)]) (rest := []) C (c_L_undo l hstk _ u_39 W  h) wd_843 wd_844 wd_0 wd_845 hz_L_undo rfl rfl ⟨by decide, by decide⟩ ⟨(show (cz + 15) + 1 ≤ 600312 by omega), (show (sz + 90) + 6 ≤ 7292578 by omega)⟩ rfl rfl (Nat.le_of_ble_eq_true rfl) dL_law_354) (fun r_41 M1 hq => ?_)
                                obtain ⟨u_42, rfl, h⟩ := hq
                                refine zm_iconst (v := 5) C dL_law_357 (by decide) ?_
                                refine zm_icmp_ne (tgt := 420) C dL_law_358 (by decide) (fun hc_43 => ?_) (fun hc_43 => ?_)
                                · have h := h.1 hc_43
                                  refine zm_iconst (v := 0) C dL_law_420 (by decide) ?_
                                  exact h.elim
                                · have h := h.2 hc_43
                                  refine zm_aload_n C dL_law_361 rfl 1 rfl ?_
                                  refine zm_ci (zr_SW (As := [.ref (g.2.2.1 0)]) (rest := []) C (c_L_undo l hstk _ u_42 W  h) wd_843 wd_844 wd_0 wd_845 hz_L_undo rfl rfl ⟨by decide, by decide⟩ ⟨(show (cz + 16) + 1 ≤ 600312 by omega), (show (sz + 96) + 6 ≤ 7292578 by omega)⟩ rfl rfl (Nat.le_of_ble_eq_true rfl) dL_law_362) (fun r_44 M1 hq => ?_)
                                  obtain ⟨u_45, rfl, h⟩ := hq
                                  refine zm_iconst (v := 4) C dL_law_365 (by decide) ?_
                                  refine zm_icmp_ne (tgt := 420) C dL_law_366 (by decide) (fun hc_46 => ?_) (fun hc_46 => ?_)
                                  · have h := h.1 hc_46
                                    refine zm_iconst (v := 0) C dL_law_420 (by decide) ?_
                                    exact h.elim
                                  · have h := h.2 hc_46
                                    refine zm_aload_n C dL_law_369 rfl 1 rfl ?_
                                    refine zm_ci (zr_SW (As := [.ref (g.2.2.1 0)]) (rest := []) C (c_L_undo l hstk _ u_45 W  h) wd_843 wd_844 wd_0 wd_845 hz_L_undo rfl rfl ⟨by decide, by decide⟩ ⟨(show (cz + 17) + 1 ≤ 600312 by omega), (show (sz + 102) + 6 ≤ 7292578 by omega)⟩ rfl rfl (Nat.le_of_ble_eq_true rfl) dL_law_370) (fun r_47 M1 hq => ?_)
                                    obtain ⟨u_48, rfl, h⟩ := hq
                                    refine zm_iconst (v := 3) C dL_law_373 (by decide) ?_
                                    refine zm_icmp_ne (tgt := 420) C dL_law_374 (by decide) (fun hc_49 => ?_) (fun hc_49 => ?_)
                                    · have h := h.1 hc_49
                                      refine zm_iconst (v := 0) C dL_law_420 (by decide) ?_
                                      exact h.elim
                                    · have h := h.2 hc_49
                                      refine zm_aload_n C dL_law_377 rfl 1 rfl ?_
                                      refine zm_ci (zr_SW (As := [.ref (g.2.2.1 0)]) (rest := []) C (c_L_undo l hstk _ u_48 W  h) wd_843 wd_844 wd_0 wd_845 hz_L_undo rfl rfl ⟨by decide, by decide⟩ ⟨(show (cz + 18) + 1 ≤ 600312 by omega), (show (sz + 108) + 6 ≤ 7292578 by omega)⟩ rfl rfl (Nat.le_of_ble_eq_true rfl) dL_law_378) (fun r_50 M1 hq => ?_)
                                      obtain ⟨u_51, rfl, h⟩ := hq
                                      refine zm_iconst (v := 2) C dL_law_381 (by decide) ?_
                                      refine zm_icmp_ne (tgt := 420) C dL_law_382 (by decide) (fun hc_52 => ?_) (fun hc_52 => ?_)
                                      · have h := h.1 hc_52
                                        refine zm_iconst (v := 0) C dL_law_420 (by decide) ?_
                                        exact h.elim
                                      · have h := h.2 hc_52
                                        refine zm_aload_n C dL_law_385 rfl 1 rfl ?_
                                        refine zm_ci (zr_SW (As := [.ref (g.2.2.1 0)]) (rest := []) C (c_L_undo l hstk _ u_51 W  h) wd_843 wd_844 wd_0 wd_845 hz_L_undo rfl rfl ⟨by decide, by decide⟩ ⟨(show (cz + 19) + 1 ≤ 600312 by omega), (show (sz + 114) + 6 ≤ 7292578 by omega)⟩ rfl rfl (Nat.le_of_ble_eq_true rfl) dL_law_386) (fun r_53 M1 hq => ?_)
                                        obtain ⟨u_54, rfl, h⟩ := hq
                                        refine zm_iconst (v := 1) C dL_law_389 (by decide) ?_
                                        refine zm_icmp_ne (tgt := 420) C dL_law_390 (by decide) (fun hc_55 => ?_) (fun hc_55 => ?_)
                                        · have h := h.1 hc_55
                                          refine zm_iconst (v := 0) C dL_law_420 (by decide) ?_
                                          exact h.elim
                                        · have h := h.2 hc_55
                                          refine zm_aload_n C dL_law_393 rfl 1 rfl ?_
                                          refine zm_ci (zr_SW (As := [.ref (g.2.2.1 0)]) (rest := []) C (c_L_undo l hstk _ u_54 W  h) wd_843 wd_844 wd_0 wd_845 hz_L_undo rfl rfl ⟨by decide, by decide⟩ ⟨(show (cz + 20) + 1 ≤ 600312 by omega), (show (sz + 120) + 6 ≤ 7292578 by omega)⟩ rfl rfl (Nat.le_of_ble_eq_true rfl) dL_law_394) (fun r_56 M1 hq => ?_)
                                          obtain ⟨u_57, rfl, h⟩ := hq
                                          refine zm_if_ne (tgt := 420) C dL_law_397 (by decide) (fun hc_58 => ?_) (fun hc_58 => ?_)
                                          · have h := h.1 hc_58
                                            refine zm_iconst (v := 0) C dL_law_420 (by decide) ?_
                                            exact h.elim
                                          · have h := h.2 hc_58
                                            refine zm_aload_n C dL_law_400 rfl 1 rfl ?_
                                            refine zm_iconst (v := 1) C dL_law_401 (by decide) ?_
                                            refine zm_ci (zr_SW (As := [.ref (g.2.2.1 0), .int (1 : Int32)]) (rest := []) C (c_L_account l hstk _ u_57 W (1 : Int32) h) wd_823 wd_824 wd_0 wd_825 hz_L_account rfl rfl ⟨by decide, by decide⟩ ⟨(show (cz + 21) + 1 ≤ 600312 by omega), (show (sz + 126) + 6 ≤ 7292578 by omega)⟩ rfl rfl (Nat.le_of_ble_eq_true rfl) dL_law_402) (fun r_59 M1 hq => ?_)
                                            obtain ⟨u_60, rfl, h⟩ := hq
                                            refine zm_bipush (v := 9) C dL_law_405 (by decide) ?_
                                            refine zm_icmp_ne (tgt := 420) C dL_law_407 (by decide) (fun hc_61 => ?_) (fun hc_61 => ?_)
                                            · have h := h.1 hc_61
                                              refine zm_iconst (v := 0) C dL_law_420 (by decide) ?_
                                              exact h.elim
                                            · have h := h.2 hc_61
                                              refine zm_aload_n C dL_law_410 rfl 1 rfl ?_
                                              refine zm_ci (zr_SW (As := [.ref (g.2.2.1 0)]) (rest := []) C (c_L_undo l hstk _ u_60 W  h) wd_843 wd_844 wd_0 wd_845 hz_L_undo rfl rfl ⟨by decide, by decide⟩ ⟨(show (cz + 22) + 1 ≤ 600312 by omega), (show (sz + 132) + 6 ≤ 7292578 by omega)⟩ rfl rfl (Nat.le_of_ble_eq_true rfl) dL_law_411) (fun r_62 M1 hq => ?_)
                                              obtain ⟨u_63, rfl, h⟩ := hq
                                              refine zm_sipush (v := -1001) C dL_law_414 (by decide) ?_
                                              refine zm_icmp_eq (tgt := 422) C dL_law_417 (by decide) (fun hc_64 => ?_) (fun hc_64 => ?_)
                                              · have h := h.1 hc_64
                                                refine zm_aload_n C dL_law_422 rfl 1 rfl ?_
                                                refine zm_ci (zr_SW (As := [.ref (g.2.2.1 0)]) (rest := []) C (c_L_restore l hstk _ u_63 W  h) wd_855 wd_856 wd_0 wd_857 hz_L_restore rfl rfl ⟨by decide, by decide⟩ ⟨(show (cz + 23) + 1 ≤ 600312 by omega), (show (sz + 138) + 6 ≤ 7292578 by omega)⟩ rfl rfl (Nat.le_of_ble_eq_true rfl) dL_law_423) (fun r_65 M1 hq => ?_)
                                                obtain ⟨u_66, rfl, h⟩ := hq
                                                refine zm_if_ne (tgt := 456) C dL_law_426 (by decide) (fun hc_67 => ?_) (fun hc_67 => ?_)
                                                · have h := h.1 hc_67
                                                  refine zm_iconst (v := 0) C dL_law_456 (by decide) ?_
                                                  exact h.elim
                                                · have h := h.2 hc_67
                                                  refine zm_aload_n C dL_law_429 rfl 1 rfl ?_
                                                  refine zm_iconst (v := 0) C dL_law_430 (by decide) ?_
                                                  refine zm_ci (zr_SW (As := [.ref (g.2.2.1 0), .int (0 : Int32)]) (rest := []) C (c_L_account l hstk _ u_66 W (0 : Int32) h) wd_823 wd_824 wd_0 wd_825 hz_L_account rfl rfl ⟨by decide, by decide⟩ ⟨(show (cz + 24) + 1 ≤ 600312 by omega), (show (sz + 144) + 6 ≤ 7292578 by omega)⟩ rfl rfl (Nat.le_of_ble_eq_true rfl) dL_law_431) (fun r_68 M1 hq => ?_)
                                                  obtain ⟨u_69, rfl, h⟩ := hq
                                                  refine zm_if_ne (tgt := 456) C dL_law_434 (by decide) (fun hc_70 => ?_) (fun hc_70 => ?_)
                                                  · have h := h.1 hc_70
                                                    refine zm_iconst (v := 0) C dL_law_456 (by decide) ?_
                                                    exact h.elim
                                                  · have h := h.2 hc_70
                                                    refine zm_aload_n C dL_law_437 rfl 1 rfl ?_
                                                    refine zm_iconst (v := 3) C dL_law_438 (by decide) ?_
                                                    refine zm_ci (zr_SW (As := [.ref (g.2.2.1 0), .int (3 : Int32)]) (rest := []) C (c_L_account l hstk _ u_69 W (3 : Int32) h) wd_823 wd_824 wd_0 wd_825 hz_L_account rfl rfl ⟨by decide, by decide⟩ ⟨(show (cz + 25) + 1 ≤ 600312 by omega), (show (sz + 150) + 6 ≤ 7292578 by omega)⟩ rfl rfl (Nat.le_of_ble_eq_true rfl) dL_law_439) (fun r_71 M1 hq => ?_)
                                                    obtain ⟨u_72, rfl, h⟩ := hq
                                                    refine zm_iconst (v := 1) C dL_law_442 (by decide) ?_
                                                    refine zm_icmp_ne (tgt := 456) C dL_law_443 (by decide) (fun hc_73 => ?_) (fun hc_73 => ?_)
                                                    · have h := h.1 hc_73
                                                      refine zm_iconst (v := 0) C dL_law_456 (by decide) ?_
                                                      exact h.elim
                                                    · have h := h.2 hc_73
                                                      refine zm_aload_n C dL_law_446 rfl 1 rfl ?_
                                                      refine zm_ci (zr_SW (As := [.ref (g.2.2.1 0)]) (rest := []) C (c_L_undo l hstk _ u_72 W  h) wd_843 wd_844 wd_0 wd_845 hz_L_undo rfl rfl ⟨by decide, by decide⟩ ⟨(show (cz + 26) + 1 ≤ 600312 by omega), (show (sz + 156) + 6 ≤ 7292578 by omega)⟩ rfl rfl (Nat.le_of_ble_eq_true rfl) dL_law_447) (fun r_74 M1 hq => ?_)
                                                      obtain ⟨u_75, rfl, h⟩ := hq
                                                      refine zm_sipush (v := -1001) C dL_law_450 (by decide) ?_
                                                      refine zm_icmp_eq (tgt := 458) C dL_law_453 (by decide) (fun hc_76 => ?_) (fun hc_76 => ?_)
                                                      · have h := h.1 hc_76
                                                        exact zm_sub [0] rfl (hend h _ _ _ (by omega) (by omega))
                                                      · have h := h.2 hc_76
                                                        refine zm_iconst (v := 0) C dL_law_456 (by decide) ?_
                                                        exact h.elim
                                              · have h := h.2 hc_64
                                                refine zm_iconst (v := 0) C dL_law_420 (by decide) ?_
                                                exact h.elim
                        · have h := h.2 hc_31
                          refine zm_iconst (v := 0) C dL_law_323 (by decide) ?_
                          exact h.elim
    · have h := h.2 hc_1
      refine zm_aload_n C dL_law_183 rfl 1 rfl ?_
      refine zm_iload_n C dL_law_184 rfl 2 rfl ?_
      refine zm_bipush (v := 8) C dL_law_185 (by decide) ?_
      refine zm_irem C dL_law_187 (by decide) ?_
      refine zm_iload_n C dL_law_188 rfl 2 rfl ?_
      refine zm_iconst (v := 1) C dL_law_189 (by decide) ?_
      refine zm_iadd C dL_law_190 ?_
      refine zm_iload_n C dL_law_191 rfl 2 rfl ?_
      refine zm_bipush (v := 8) C dL_law_192 (by decide) ?_
      refine zm_idiv C dL_law_194 (by decide) ?_
      refine zm_iadd C dL_law_195 ?_
      refine zm_bipush (v := 8) C dL_law_196 (by decide) ?_
      refine zm_irem C dL_law_198 (by decide) ?_
      refine zm_ci (zr_SW (As := [.ref (g.2.2.1 0), .int (x2 - x2 / (8 : Int32) * (8 : Int32)), .int (((x2 + (1 : Int32)) + (x2 / (8 : Int32))) - ((x2 + (1 : Int32)) + (x2 / (8 : Int32))) / (8 : Int32) * (8 : Int32))]) (rest := []) C (c_L_tread l hstk _ u W (x2 - x2 / (8 : Int32) * (8 : Int32)) (((x2 + (1 : Int32)) + (x2 / (8 : Int32))) - ((x2 + (1 : Int32)) + (x2 / (8 : Int32))) / (8 : Int32) * (8 : Int32)) h) wd_449 wd_450 wd_0 wd_451 hz_L_tread rfl rfl ⟨by decide, by decide⟩ ⟨(show cz + 1 ≤ 600312 by omega), (show sz + 6 ≤ 7292578 by omega)⟩ rfl rfl (Nat.le_of_ble_eq_true rfl) dL_law_199) (fun r_77 M1 hq => ?_)
      obtain ⟨u_78, rfl, h⟩ := hq
      refine zm_iload_n C dL_law_202 rfl 2 rfl ?_
      refine zm_icmp_eq (tgt := 208) C dL_law_203 (by decide) (fun hc_79 => ?_) (fun hc_79 => ?_)
      · have h := h.1 hc_79
        obtain ⟨x2_80, hx2_80⟩ : ∃ z, z = x2 + (1 : Int32) := ⟨_, rfl⟩
        have h := h x2_80 hx2_80
        refine zm_iinc (v := x2_80) (lv' := [(2, .int x2_80), (0, .ref g.2.2.2.2.2.1.1), (1, .ref (g.2.2.1 0))]) C dL_law_208 2 rfl (by rw [hx2_80]; rfl) (by decide) rfl ?_
        refine zm_goto (tgt := 177) C dL_law_211 (by decide) ?_
        exact zm_sub [1, 2, 0] rfl (ih _ _ _ _ (by omega) (by omega) h)
      · have h := h.2 hc_79
        refine zm_iconst (v := 0) C dL_law_206 (by decide) ?_
        exact h.elim
def wl_R_lawe_130 (xs : Nat → Int32) (L : Nat) (Q : Prop) : Nat → Int32 → (MU) → Prop
  | 0, _, _ => False
  | n + 1, x2, u => (((8 : Int32) ≤ x2) → w_R_dig  u (fun r_2 u_3 => ((¬ r_2 = (-1001 : Int32)) → False) ∧ ((r_2 = (-1001 : Int32)) → w_R_is (2 : Int32) (8 : Int32) (0 : Int32) u_3 (fun r_5 u_6 => ((¬ r_5 = 0) → ∃ nn, nn ≤ 17 ∧ wl_R_lawe_177 xs L Q nn (0 : Int32) u_6) ∧ ((r_5 = 0) → False))))) ∧ ((¬ (8 : Int32) ≤ x2) → w_R_dig  u (fun r_8 u_9 => ((r_8 = x2) → ∀ x2_11, x2_11 = x2 + (1 : Int32) → wl_R_lawe_130 xs L Q n x2_11 u_9) ∧ ((¬ r_8 = x2) → False)))
set_option maxHeartbeats 4000000 in
set_option maxRecDepth 100000 in
theorem vl_R_lawe_130 {p : Program} {l : Launch} {e : Env} {s : State} {m : MethodId} {args : Array Value} {below : List Frame} {meth : Method} {c : Code} {g : GE} {W : MU × ((Nat → Int64) × (Nat → UInt64))} {Qz : State → Prop} {Q : Prop} {xs : Nat → Int32} {L : Nat} (hxs : g.2.2.2.2.2.1.2.2 = xs) (hLL : g.2.2.2.2.2.1.2.1 = L) (hstk : l.stackTraces = false) (C : zCx p l s m args meth c g RL cL_law 11) (hend : Q → ∀ (u : MU) (cz sz : Nat), cz + 300000 ≤ 600312 → sz + 1800000 ≤ 7292578 → WM p l e room_1 s m args below meth c g 11 cz sz Qz 458 [(0, .ref g.2.2.2.2.2.1.1)] [] (u, W)) : ∀ (n : Nat) (x2 : Int32) (u : MU) (cz sz : Nat), cz + (300050 + n * 1 + 0) ≤ 600312 → sz + 6 * (300050 + n * 1 + 0) ≤ 7292578 → wl_R_lawe_130 xs L Q n x2 u → WM p l e room_1 s m args below meth c g 11 cz sz Qz 130 [(0, .ref g.2.2.2.2.2.1.1), (1, .ref (g.2.2.1 0)), (2, .int x2)] [] (u, W) := by
  intro n
  induction n with
  | zero => intro _ _ _ _ _ _ h; exact h.elim
  | succ n ih =>
    intro x2 u cz sz hz hs h
    unfold wl_R_lawe_130 at h
    refine zm_iload_n C dL_law_130 rfl 2 rfl ?_
    refine zm_bipush (v := 8) C dL_law_131 (by decide) ?_
    refine zm_icmp_ge (tgt := 152) C dL_law_133 (by decide) (fun hc_1 => ?_) (fun hc_1 => ?_)
    · have h := h.1 hc_1
      refine zm_aload_n C dL_law_152 rfl 1 rfl ?_
      refine zm_ci (zr_SW (As := [.ref (g.2.2.1 0)]) (rest := []) C (c_L_dig l hstk _ u W  h) wd_335 wd_336 wd_0 wd_337 hz_L_dig rfl rfl ⟨by decide, by decide⟩ ⟨(show cz + 1 ≤ 600312 by omega), (show sz + 6 ≤ 7292578 by omega)⟩ rfl rfl (Nat.le_of_ble_eq_true rfl) dL_law_153) (fun r_2 M1 hq => ?_)
      obtain ⟨u_3, rfl, h⟩ := hq
      refine zm_sipush (v := -1001) C dL_law_156 (by decide) ?_
      refine zm_icmp_ne (tgt := 173) C dL_law_159 (by decide) (fun hc_4 => ?_) (fun hc_4 => ?_)
      · have h := h.1 hc_4
        refine zm_iconst (v := 0) C dL_law_173 (by decide) ?_
        exact h.elim
      · have h := h.2 hc_4
        refine zm_aload_n C dL_law_162 rfl 1 rfl ?_
        refine zm_iconst (v := 2) C dL_law_163 (by decide) ?_
        refine zm_bipush (v := 8) C dL_law_164 (by decide) ?_
        refine zm_iconst (v := 0) C dL_law_166 (by decide) ?_
        refine zm_ci (zr_S (As := [.ref (g.2.2.1 0), .int (2 : Int32), .int (8 : Int32), .int (0 : Int32)]) (rest := []) C (c_L_is l hstk _ u_3 W (2 : Int32) (8 : Int32) (0 : Int32) h) wd_863 wd_864 wd_0 wd_865 hy_L_is rfl rfl ⟨by decide, by decide⟩ ⟨(show (cz + 1) + 3 ≤ 600312 by omega), (show (sz + 6) + 18 ≤ 7292578 by omega)⟩ rfl rfl (Nat.le_of_ble_eq_true rfl) dL_law_167) (fun r_5 M1 hq => ?_)
        obtain ⟨u_6, rfl, h⟩ := hq
        refine zm_if_ne (tgt := 175) C dL_law_170 (by decide) (fun hc_7 => ?_) (fun hc_7 => ?_)
        · have h := h.1 hc_7
          refine zm_iconst (v := 0) C dL_law_175 (by decide) ?_
          refine zm_istore_n (lv' := [(2, .int (0 : Int32)), (0, .ref g.2.2.2.2.2.1.1), (1, .ref (g.2.2.1 0))]) C dL_law_176 rfl (by decide) rfl ?_
          obtain ⟨nn, hnn, h⟩ := h
          exact zm_sub [1, 2, 0] rfl (vl_R_lawe_177 hxs hLL hstk C hend  nn _ _ _ _ (by omega) (by omega) h)
        · have h := h.2 hc_7
          refine zm_iconst (v := 0) C dL_law_173 (by decide) ?_
          exact h.elim
    · have h := h.2 hc_1
      refine zm_aload_n C dL_law_136 rfl 1 rfl ?_
      refine zm_ci (zr_SW (As := [.ref (g.2.2.1 0)]) (rest := []) C (c_L_dig l hstk _ u W  h) wd_335 wd_336 wd_0 wd_337 hz_L_dig rfl rfl ⟨by decide, by decide⟩ ⟨(show cz + 1 ≤ 600312 by omega), (show sz + 6 ≤ 7292578 by omega)⟩ rfl rfl (Nat.le_of_ble_eq_true rfl) dL_law_137) (fun r_8 M1 hq => ?_)
      obtain ⟨u_9, rfl, h⟩ := hq
      refine zm_iload_n C dL_law_140 rfl 2 rfl ?_
      refine zm_icmp_eq (tgt := 146) C dL_law_141 (by decide) (fun hc_10 => ?_) (fun hc_10 => ?_)
      · have h := h.1 hc_10
        obtain ⟨x2_11, hx2_11⟩ : ∃ z, z = x2 + (1 : Int32) := ⟨_, rfl⟩
        have h := h x2_11 hx2_11
        refine zm_iinc (v := x2_11) (lv' := [(2, .int x2_11), (0, .ref g.2.2.2.2.2.1.1), (1, .ref (g.2.2.1 0))]) C dL_law_146 2 rfl (by rw [hx2_11]; rfl) (by decide) rfl ?_
        refine zm_goto (tgt := 130) C dL_law_149 (by decide) ?_
        exact zm_sub [1, 2, 0] rfl (ih _ _ _ _ (by omega) (by omega) h)
      · have h := h.2 hc_10
        refine zm_iconst (v := 0) C dL_law_144 (by decide) ?_
        exact h.elim
def wl_R_lawe_48 (xs : Nat → Int32) (L : Nat) (Q : Prop) : Nat → Int32 → (MU) → Prop
  | 0, _, _ => False
  | n + 1, x2, u => (((60 : Int32) ≤ x2) → w_R_append (100 : Int32) u (fun r_2 u_3 => ((¬ r_2 = (-1001 : Int32)) → False) ∧ ((r_2 = (-1001 : Int32)) → w_R_account (10 : Int32) u_3 (fun r_5 u_6 => ((¬ r_5 = (60 : Int32)) → False) ∧ ((r_5 = (60 : Int32)) → w_R_commands  u_6 (fun r_8 u_9 => ((¬ r_8 = (-1001 : Int32)) → False) ∧ ((r_8 = (-1001 : Int32)) → w_X9_faultPosition u_9  (fun r_11 => ((¬ r_11 = 0) → False) ∧ ((r_11 = 0) → w_R_account (10 : Int32) u_9 (fun r_14 u_15 => ((r_14 = 0) → ∃ nn, nn ≤ 9 ∧ wl_R_lawe_130 xs L Q nn (0 : Int32) u_15) ∧ ((¬ r_14 = 0) → False))))))))))) ∧ ((¬ (60 : Int32) ≤ x2) → w_R_append ((((65 : Int32) + x2).toUInt32 % 65536).toInt32) u (fun r_17 u_18 => ((r_17 = (x2 + (1 : Int32))) → ∀ x2_20, x2_20 = x2 + (1 : Int32) → wl_R_lawe_48 xs L Q n x2_20 u_18) ∧ ((¬ r_17 = (x2 + (1 : Int32))) → False)))
set_option maxHeartbeats 4000000 in
set_option maxRecDepth 100000 in
theorem vl_R_lawe_48 {p : Program} {l : Launch} {e : Env} {s : State} {m : MethodId} {args : Array Value} {below : List Frame} {meth : Method} {c : Code} {g : GE} {W : MU × ((Nat → Int64) × (Nat → UInt64))} {Qz : State → Prop} {Q : Prop} {xs : Nat → Int32} {L : Nat} (hxs : g.2.2.2.2.2.1.2.2 = xs) (hLL : g.2.2.2.2.2.1.2.1 = L) (hstk : l.stackTraces = false) (C : zCx p l s m args meth c g RL cL_law 11) (hend : Q → ∀ (u : MU) (cz sz : Nat), cz + 300000 ≤ 600312 → sz + 1800000 ≤ 7292578 → WM p l e room_1 s m args below meth c g 11 cz sz Qz 458 [(0, .ref g.2.2.2.2.2.1.1)] [] (u, W)) : ∀ (n : Nat) (x2 : Int32) (u : MU) (cz sz : Nat), cz + (300064 + n * 1 + 0) ≤ 600312 → sz + 6 * (300064 + n * 1 + 0) ≤ 7292578 → wl_R_lawe_48 xs L Q n x2 u → WM p l e room_1 s m args below meth c g 11 cz sz Qz 48 [(0, .ref g.2.2.2.2.2.1.1), (1, .ref (g.2.2.1 0)), (2, .int x2)] [] (u, W) := by
  intro n
  induction n with
  | zero => intro _ _ _ _ _ _ h; exact h.elim
  | succ n ih =>
    intro x2 u cz sz hz hs h
    unfold wl_R_lawe_48 at h
    refine zm_iload_n C dL_law_48 rfl 2 rfl ?_
    refine zm_bipush (v := 60) C dL_law_49 (by decide) ?_
    refine zm_icmp_ge (tgt := 77) C dL_law_51 (by decide) (fun hc_1 => ?_) (fun hc_1 => ?_)
    · have h := h.1 hc_1
      refine zm_aload_n C dL_law_77 rfl 1 rfl ?_
      refine zm_bipush (v := 100) C dL_law_78 (by decide) ?_
      refine zm_ci (zr_SW (As := [.ref (g.2.2.1 0), .int (100 : Int32)]) (rest := []) C (c_L_append l hstk _ u W (100 : Int32) h) wd_704 wd_705 wd_0 wd_706 hz_L_append rfl rfl ⟨by decide, by decide⟩ ⟨(show cz + 1 ≤ 600312 by omega), (show sz + 6 ≤ 7292578 by omega)⟩ rfl rfl (Nat.le_of_ble_eq_true rfl) dL_law_80) (fun r_2 M1 hq => ?_)
      obtain ⟨u_3, rfl, h⟩ := hq
      refine zm_sipush (v := -1001) C dL_law_83 (by decide) ?_
      refine zm_icmp_ne (tgt := 126) C dL_law_86 (by decide) (fun hc_4 => ?_) (fun hc_4 => ?_)
      · have h := h.1 hc_4
        refine zm_iconst (v := 0) C dL_law_126 (by decide) ?_
        exact h.elim
      · have h := h.2 hc_4
        refine zm_aload_n C dL_law_89 rfl 1 rfl ?_
        refine zm_bipush (v := 10) C dL_law_90 (by decide) ?_
        refine zm_ci (zr_SW (As := [.ref (g.2.2.1 0), .int (10 : Int32)]) (rest := []) C (c_L_account l hstk _ u_3 W (10 : Int32) h) wd_823 wd_824 wd_0 wd_825 hz_L_account rfl rfl ⟨by decide, by decide⟩ ⟨(show (cz + 1) + 1 ≤ 600312 by omega), (show (sz + 6) + 6 ≤ 7292578 by omega)⟩ rfl rfl (Nat.le_of_ble_eq_true rfl) dL_law_92) (fun r_5 M1 hq => ?_)
        obtain ⟨u_6, rfl, h⟩ := hq
        refine zm_bipush (v := 60) C dL_law_95 (by decide) ?_
        refine zm_icmp_ne (tgt := 126) C dL_law_97 (by decide) (fun hc_7 => ?_) (fun hc_7 => ?_)
        · have h := h.1 hc_7
          refine zm_iconst (v := 0) C dL_law_126 (by decide) ?_
          exact h.elim
        · have h := h.2 hc_7
          refine zm_aload_n C dL_law_100 rfl 1 rfl ?_
          refine zm_ci (zr_SW (As := [.ref (g.2.2.1 0)]) (rest := []) C (c_L_commands l hstk _ u_6 W  h) wd_732 wd_733 wd_0 wd_734 hz_L_commands rfl rfl ⟨by decide, by decide⟩ ⟨(show (cz + 2) + 1 ≤ 600312 by omega), (show (sz + 12) + 6 ≤ 7292578 by omega)⟩ rfl rfl (Nat.le_of_ble_eq_true rfl) dL_law_101) (fun r_8 M1 hq => ?_)
          obtain ⟨u_9, rfl, h⟩ := hq
          refine zm_sipush (v := -1001) C dL_law_104 (by decide) ?_
          refine zm_icmp_ne (tgt := 126) C dL_law_107 (by decide) (fun hc_10 => ?_) (fun hc_10 => ?_)
          · have h := h.1 hc_10
            refine zm_iconst (v := 0) C dL_law_126 (by decide) ?_
            exact h.elim
          · have h := h.2 hc_10
            refine zm_aload_n C dL_law_110 rfl 1 rfl ?_
            refine zm_ci (zr_V (As := []) (rest := []) C (c_X9_faultPosition l _ u_9 W  h) wd_302 wd_303 wd_304 wd_1 wd_305 hy_X9_faultPosition rfl rfl ⟨by decide, by decide⟩ ⟨(show (cz + 3) + 0 ≤ 600312 by omega), (show (sz + 18) + 0 ≤ 7292578 by omega)⟩ (ci := 9) (by decide) (zCell_k kd_0) rfl rfl rfl rfl (Nat.le_of_ble_eq_true rfl) dL_law_111) (fun r_11 M1 hq => ?_)
            obtain ⟨rfl, h⟩ := hq
            refine zm_if_ne (tgt := 126) C dL_law_114 (by decide) (fun hc_13 => ?_) (fun hc_13 => ?_)
            · have h := h.1 hc_13
              refine zm_iconst (v := 0) C dL_law_126 (by decide) ?_
              exact h.elim
            · have h := h.2 hc_13
              refine zm_aload_n C dL_law_117 rfl 1 rfl ?_
              refine zm_bipush (v := 10) C dL_law_118 (by decide) ?_
              refine zm_ci (zr_SW (As := [.ref (g.2.2.1 0), .int (10 : Int32)]) (rest := []) C (c_L_account l hstk _ u_9 W (10 : Int32) h) wd_823 wd_824 wd_0 wd_825 hz_L_account rfl rfl ⟨by decide, by decide⟩ ⟨(show (cz + 3) + 1 ≤ 600312 by omega), (show (sz + 18) + 6 ≤ 7292578 by omega)⟩ rfl rfl (Nat.le_of_ble_eq_true rfl) dL_law_120) (fun r_14 M1 hq => ?_)
              obtain ⟨u_15, rfl, h⟩ := hq
              refine zm_if_eq (tgt := 128) C dL_law_123 (by decide) (fun hc_16 => ?_) (fun hc_16 => ?_)
              · have h := h.1 hc_16
                refine zm_iconst (v := 0) C dL_law_128 (by decide) ?_
                refine zm_istore_n (lv' := [(2, .int (0 : Int32)), (0, .ref g.2.2.2.2.2.1.1), (1, .ref (g.2.2.1 0))]) C dL_law_129 rfl (by decide) rfl ?_
                obtain ⟨nn, hnn, h⟩ := h
                exact zm_sub [1, 2, 0] rfl (vl_R_lawe_130 hxs hLL hstk C hend  nn _ _ _ _ (by omega) (by omega) h)
              · have h := h.2 hc_16
                refine zm_iconst (v := 0) C dL_law_126 (by decide) ?_
                exact h.elim
    · have h := h.2 hc_1
      refine zm_aload_n C dL_law_54 rfl 1 rfl ?_
      refine zm_bipush (v := 65) C dL_law_55 (by decide) ?_
      refine zm_iload_n C dL_law_57 rfl 2 rfl ?_
      refine zm_iadd C dL_law_58 ?_
      refine zm_i2c C dL_law_59 ?_
      refine zm_ci (zr_SW (As := [.ref (g.2.2.1 0), .int (((65 : Int32) + x2).toUInt32 % 65536).toInt32]) (rest := []) C (c_L_append l hstk _ u W ((((65 : Int32) + x2).toUInt32 % 65536).toInt32) h) wd_704 wd_705 wd_0 wd_706 hz_L_append rfl rfl ⟨by decide, by decide⟩ ⟨(show cz + 1 ≤ 600312 by omega), (show sz + 6 ≤ 7292578 by omega)⟩ rfl rfl (Nat.le_of_ble_eq_true rfl) dL_law_60) (fun r_17 M1 hq => ?_)
      obtain ⟨u_18, rfl, h⟩ := hq
      refine zm_iload_n C dL_law_63 rfl 2 rfl ?_
      refine zm_iconst (v := 1) C dL_law_64 (by decide) ?_
      refine zm_iadd C dL_law_65 ?_
      refine zm_icmp_eq (tgt := 71) C dL_law_66 (by decide) (fun hc_19 => ?_) (fun hc_19 => ?_)
      · have h := h.1 hc_19
        obtain ⟨x2_20, hx2_20⟩ : ∃ z, z = x2 + (1 : Int32) := ⟨_, rfl⟩
        have h := h x2_20 hx2_20
        refine zm_iinc (v := x2_20) (lv' := [(2, .int x2_20), (0, .ref g.2.2.2.2.2.1.1), (1, .ref (g.2.2.1 0))]) C dL_law_71 2 rfl (by rw [hx2_20]; rfl) (by decide) rfl ?_
        refine zm_goto (tgt := 48) C dL_law_74 (by decide) ?_
        exact zm_sub [1, 2, 0] rfl (ih _ _ _ _ (by omega) (by omega) h)
      · have h := h.2 hc_19
        refine zm_iconst (v := 0) C dL_law_69 (by decide) ?_
        exact h.elim
def wb_R_lawe_8 (xs : Nat → Int32) (L : Nat) (Q : Prop) (u : MU) : Prop := w_R_undo  u (fun r_1 u_2 => ((¬ r_1 = (-1001 : Int32)) → False) ∧ ((r_1 = (-1001 : Int32)) → w_R_restore  u_2 (fun r_4 u_5 => ((¬ r_4 = (-1001 : Int32)) → False) ∧ ((r_4 = (-1001 : Int32)) → w_X9_save  u_5 (fun r_7 u_8 => ((¬ r_7 = 0) → False) ∧ ((r_7 = 0) → w_R_flock (2 : Int32) u_8 (fun r_10 u_11 => ((r_10 = (1 : Int32)) → ∃ nn, nn ≤ 61 ∧ wl_R_lawe_48 xs L Q nn (0 : Int32) u_11) ∧ ((¬ r_10 = (1 : Int32)) → False))))))))
set_option maxHeartbeats 4000000 in
set_option maxRecDepth 100000 in
theorem vb_R_lawe_8 {p : Program} {l : Launch} {e : Env} {s : State} {m : MethodId} {args : Array Value} {below : List Frame} {meth : Method} {c : Code} {g : GE} {W : MU × ((Nat → Int64) × (Nat → UInt64))} {Qz : State → Prop} {Q : Prop} {xs : Nat → Int32} {L : Nat} (hxs : g.2.2.2.2.2.1.2.2 = xs) (hLL : g.2.2.2.2.2.1.2.1 = L) (hstk : l.stackTraces = false) (C : zCx p l s m args meth c g RL cL_law 11) (hend : Q → ∀ (u : MU) (cz sz : Nat), cz + 300000 ≤ 600312 → sz + 1800000 ≤ 7292578 → WM p l e room_1 s m args below meth c g 11 cz sz Qz 458 [(0, .ref g.2.2.2.2.2.1.1)] [] (u, W)) (u : MU) (cz sz : Nat) (hz : cz + 300128 + 0 ≤ 600312) (hs : sz + 6 * (300128 + 0) ≤ 7292578) (h : wb_R_lawe_8 xs L Q u) : WM p l e room_1 s m args below meth c g 11 cz sz Qz 8 [(0, .ref g.2.2.2.2.2.1.1), (1, .ref (g.2.2.1 0))] [] (u, W) := by
  unfold wb_R_lawe_8 at h
  refine zm_aload_n C dL_law_8 rfl 1 rfl ?_
  refine zm_ci (zr_SW (As := [.ref (g.2.2.1 0)]) (rest := []) C (c_L_undo l hstk _ u W  h) wd_843 wd_844 wd_0 wd_845 hz_L_undo rfl rfl ⟨by decide, by decide⟩ ⟨(show cz + 1 ≤ 600312 by omega), (show sz + 6 ≤ 7292578 by omega)⟩ rfl rfl (Nat.le_of_ble_eq_true rfl) dL_law_9) (fun r_1 M1 hq => ?_)
  obtain ⟨u_2, rfl, h⟩ := hq
  refine zm_sipush (v := -1001) C dL_law_12 (by decide) ?_
  refine zm_icmp_ne (tgt := 44) C dL_law_15 (by decide) (fun hc_3 => ?_) (fun hc_3 => ?_)
  · have h := h.1 hc_3
    refine zm_iconst (v := 0) C dL_law_44 (by decide) ?_
    exact h.elim
  · have h := h.2 hc_3
    refine zm_aload_n C dL_law_18 rfl 1 rfl ?_
    refine zm_ci (zr_SW (As := [.ref (g.2.2.1 0)]) (rest := []) C (c_L_restore l hstk _ u_2 W  h) wd_855 wd_856 wd_0 wd_857 hz_L_restore rfl rfl ⟨by decide, by decide⟩ ⟨(show (cz + 1) + 1 ≤ 600312 by omega), (show (sz + 6) + 6 ≤ 7292578 by omega)⟩ rfl rfl (Nat.le_of_ble_eq_true rfl) dL_law_19) (fun r_4 M1 hq => ?_)
    obtain ⟨u_5, rfl, h⟩ := hq
    refine zm_sipush (v := -1001) C dL_law_22 (by decide) ?_
    refine zm_icmp_ne (tgt := 44) C dL_law_25 (by decide) (fun hc_6 => ?_) (fun hc_6 => ?_)
    · have h := h.1 hc_6
      refine zm_iconst (v := 0) C dL_law_44 (by decide) ?_
      exact h.elim
    · have h := h.2 hc_6
      refine zm_aload_n C dL_law_28 rfl 1 rfl ?_
      refine zm_ci (zr_V (As := []) (rest := []) C (c_X9_save l _ u_5 W  h) wd_306 wd_307 wd_308 wd_1 wd_309 hy_X9_save rfl rfl ⟨by decide, by decide⟩ ⟨(show (cz + 2) + 0 ≤ 600312 by omega), (show (sz + 12) + 0 ≤ 7292578 by omega)⟩ (ci := 9) (by decide) (zCell_k kd_0) rfl rfl rfl rfl (Nat.le_of_ble_eq_true rfl) dL_law_29) (fun r_7 M1 hq => ?_)
      obtain ⟨u_8, rfl, h⟩ := hq
      refine zm_if_ne (tgt := 44) C dL_law_32 (by decide) (fun hc_9 => ?_) (fun hc_9 => ?_)
      · have h := h.1 hc_9
        refine zm_iconst (v := 0) C dL_law_44 (by decide) ?_
        exact h.elim
      · have h := h.2 hc_9
        refine zm_aload_n C dL_law_35 rfl 1 rfl ?_
        refine zm_iconst (v := 2) C dL_law_36 (by decide) ?_
        refine zm_ci (zr_SW (As := [.ref (g.2.2.1 0), .int (2 : Int32)]) (rest := []) C (c_L_flock l hstk _ u_8 W (2 : Int32) h) wd_504 wd_505 wd_0 wd_506 hz_L_flock rfl rfl ⟨by decide, by decide⟩ ⟨(show (cz + 2) + 1 ≤ 600312 by omega), (show (sz + 12) + 6 ≤ 7292578 by omega)⟩ rfl rfl (Nat.le_of_ble_eq_true rfl) dL_law_37) (fun r_10 M1 hq => ?_)
        obtain ⟨u_11, rfl, h⟩ := hq
        refine zm_iconst (v := 1) C dL_law_40 (by decide) ?_
        refine zm_icmp_eq (tgt := 46) C dL_law_41 (by decide) (fun hc_12 => ?_) (fun hc_12 => ?_)
        · have h := h.1 hc_12
          refine zm_iconst (v := 0) C dL_law_46 (by decide) ?_
          refine zm_istore_n (lv' := [(2, .int (0 : Int32)), (0, .ref g.2.2.2.2.2.1.1), (1, .ref (g.2.2.1 0))]) C dL_law_47 rfl (by decide) rfl ?_
          obtain ⟨nn, hnn, h⟩ := h
          exact zm_sub [1, 2, 0] rfl (vl_R_lawe_48 hxs hLL hstk C hend  nn _ _ _ _ (by omega) (by omega) h)
        · have h := h.2 hc_12
          refine zm_iconst (v := 0) C dL_law_44 (by decide) ?_
          exact h.elim
