set_option maxRecDepth 100000 in
set_option maxHeartbeats 4000000 in
theorem whole_go {p : Program} {l : Launch} {e : Env} {s : State} {m : MethodId} {args : Array Value} {below : List Frame} {meth : Method} {c : Code} {b : Nat} {Q : State → Prop} {g : GE} (K : zCc p l s m args meth c g RL cL_law 9)
    (k : ∀ (a0 : Nat) (e0 : Nat → Nat) (a1 : Nat) (e1 : Nat → Nat) (a2 a3 : Nat), WC p l e room_1 s m args below meth c g 9 200 49200 Q 28 [(5, .int 0), (4, .ref a3), (3, .ref a2), (2, .ref a1), (1, .ref a0), (0, .ref b)] [] [] ((([] ++ ZF9 g a0 e0) ++ ZF10 g a1 e1 ++ [(a2, .inl (g.2.1 2, 1, .inr (.inl (fun _ => 0))))]) ++ [(a3, .inl (g.2.1 3, 1, .inr (.inr (.inr (.inl (fun _ => 0))))))])) :
    WC p l e room_1 s m args below meth c g 9 0 0 Q 0 [(0, .ref b)] [] [] [] := by
  refine zc_new (ci := 9) (fs := [.null, .null, .null, .int 0, .null, .null, .null, .null, .null, .null, .null, .null, .null, .int 0, .int 0, .int 0]) K iX9 tyX9 tyX9_ok wd_27 wd_28 wd_1 rfl (zFs (by rfl)) (by decide) (by decide) dL_law_0 (fun a0 => ?_)
  refine zc_dup K dL_law_3 rfl ?_
  refine zc_call (ZF := ZF9 _) K (fun b v0 => cc_X9 b v0) wd_29 wd_30 wd_1 wd_31 rfl ci_X9 rfl rfl (by decide) (by decide) (Nat.le_of_ble_eq_true rfl) dL_law_4 (fun e0 => ?_)
  refine zc_astore_n (lv' := [(1, .ref a0), (0, .ref b)]) K dL_law_7 rfl (by decide) rfl ?_
  refine zc_new (ci := 10) (fs := [.null, .null, .null, .int 0, .null, .int 0, .null, .int 0, .null, .int 0, .int 0, .int 0, .null, .int 0, .int 0, .int 0, .int 0, .int 0, .null, .null, .null, .null, .int 0, .null, .null, .int 0]) K iX10 tyX10 tyX10_ok wd_1091 wd_1092 wd_11 rfl (zFs (by rfl)) (by decide) (by decide) dL_law_8 (fun a1 => ?_)
  refine zc_dup K dL_law_11 rfl ?_
  refine zc_call (ZF := ZF10 _) K (fun b v0 => cc_X10 b v0) wd_1093 wd_1094 wd_11 wd_1095 rfl ci_X10 rfl rfl (by decide) (by decide) (Nat.le_of_ble_eq_true rfl) dL_law_12 (fun e1 => ?_)
  refine zc_astore_n (lv' := [(2, .ref a1), (1, .ref a0), (0, .ref b)]) K dL_law_15 rfl (by decide) rfl ?_
  refine zc_iconst (v := 1) K dL_law_16 (by decide +kernel) ?_
  refine zc_newarr_long (N := 1) K wd_1480 (by decide) (by decide +kernel) (by decide) (by decide) (by decide) dL_law_17 (fun a2 => ?_)
  refine zc_astore_n (lv' := [(3, .ref a2), (2, .ref a1), (1, .ref a0), (0, .ref b)]) K dL_law_19 rfl (by decide) rfl ?_
  refine zc_iconst (v := 1) K dL_law_20 (by decide +kernel) ?_
  refine zc_newarr_double (N := 1) K wd_1481 (by decide) (by decide +kernel) (by decide) (by decide) (by decide) dL_law_21 (fun a3 => ?_)
  refine zc_astore (lv' := [(4, .ref a3), (3, .ref a2), (2, .ref a1), (1, .ref a0), (0, .ref b)]) K dL_law_23 (by decide) rfl ?_
  refine zc_iconst (v := 0) K dL_law_25 (by decide +kernel) ?_
  refine zc_istore (lv' := [(5, .int 0), (4, .ref a3), (3, .ref a2), (2, .ref a1), (1, .ref a0), (0, .ref b)]) K dL_law_26 (by decide) rfl ?_
  exact fun H locs ls hl hP hD hS => W.widen (by decide) (by decide) (k a0 e0 a1 e1 a2 a3 H locs ls hl hP hD hS)
