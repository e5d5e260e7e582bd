/-! FROM THE LAW'S ENTRY: both objects, both halves -/
theorem wd_36 : (Jvm.Cond.classLink "FoxBurrowsLaw" (8 : Nat) "FoxBurrows") ∈ TB := zTB 36 (by decide +kernel) (by decide +kernel)
theorem wd_38 : (Jvm.Cond.methodLink "FoxBurrowsLaw" (289 : Nat) ({ cls := "FoxBurrows", name := "<init>", desc := "()V" } : Jvm.MethodName)) ∈ TB := zTB 38 (by decide +kernel) (by decide +kernel)
theorem wd_39 : (Jvm.Cond.instanceMethod ({ cls := "FoxBurrows", name := "<init>", desc := "()V" } : Jvm.MethodName)) ∈ TB := zTB 39 (by decide +kernel) (by decide +kernel)
theorem wd_40 : (Jvm.Cond.code ({ cls := "FoxBurrows", name := "<init>", desc := "()V" } : Jvm.MethodName) prog_1_method_1_code (1 : Nat) (Option.none : Option Jvm.ClassFile.FieldType)) ∈ TB := zTB 40 (by decide +kernel) (by decide +kernel)
set_option maxRecDepth 100000 in
set_option maxHeartbeats 4000000 in
theorem whole_go1 {p : Program} {l : Launch} {e : Env} {s : State} {m : MethodId} {args : Array Value} {below : List Frame} {meth : Method} {c : Code} {b : Nat} {Q : State → Prop} {g : GE} (K : zCc p l s m args meth c g RL cL_law 11) {cz sz : Nat} (hz : cz + 200000 ≤ 600312) (hs : sz + 1300000 ≤ 7292578)
    (k : ∀ (a0 : Nat) (e0 : Nat → Nat), WC p l e room_1 s m args below meth c g 11 (cz + 117) (sz + 10169) Q 8 [(1, .ref a0), (0, .ref b)] [] [] ([] ++ ZF9 g a0 e0)) :
    WC p l e room_1 s m args below meth c g 11 cz sz Q 0 [(0, .ref b)] [] [] [] := by
  refine zc_new (ci := 9) (fs := [.null, .null, .null, .int 0, .null, .null, .null, .null, .null, .null, .null, .null, .null, .int 0, .int 0, .int 0]) K iX9 tyX9 tyX9_ok wd_36 wd_37 wd_1 rfl (zFs (by rfl)) (show cz + 1 ≤ 600312 by omega) (show sz + 16 ≤ 7292578 by omega) dL_law_0 (fun a0 => ?_)
  refine zc_dup K dL_law_3 rfl ?_
  refine zc_call (ZF := ZF9 _) K (fun b v0 => cc_X9 b v0) wd_38 wd_39 wd_1 wd_40 rfl ci_X9 rfl rfl (by decide) ⟨(show cz + 1 + 116 ≤ 600312 by omega), (show sz + 16 + 10153 ≤ 7292578 by omega)⟩ (Nat.le_of_ble_eq_true rfl) dL_law_4 (fun e0 => ?_)
  refine zc_astore_n (lv' := [(1, .ref a0), (0, .ref b)]) K dL_law_7 rfl (by decide) rfl ?_
  exact k a0 e0
set_option maxRecDepth 100000 in
set_option maxHeartbeats 4000000 in
theorem whole_go2 {p : Program} {l : Launch} {e : Env} {s : State} {m : MethodId} {args : Array Value} {below : List Frame} {meth : Method} {c : Code} {b : Nat} {Q : State → Prop} {g : GE} (K : zCc p l s m args meth c g RL cL_law 11) {cz sz : Nat} (hz : cz + 200000 ≤ 600312) (hs : sz + 1300000 ≤ 7292578)
    (k : ∀ (a0 : Nat) (e0 : Nat → Nat), WC p l e room_1 s m args below meth c g 11 (cz + 117) (sz + 10169) Q 466 [(2, .ref a0), (0, .ref b)] [] [] ([] ++ ZF9 g a0 e0)) :
    WC p l e room_1 s m args below meth c g 11 cz sz Q 458 [(0, .ref b)] [] [] [] := by
  refine zc_new (ci := 9) (fs := [.null, .null, .null, .int 0, .null, .null, .null, .null, .null, .null, .null, .null, .null, .int 0, .int 0, .int 0]) K iX9 tyX9 tyX9_ok wd_36 wd_37 wd_1 rfl (zFs (by rfl)) (show cz + 1 ≤ 600312 by omega) (show sz + 16 ≤ 7292578 by omega) dL_law_458 (fun a0 => ?_)
  refine zc_dup K dL_law_461 rfl ?_
  refine zc_call (ZF := ZF9 _) K (fun b v0 => cc_X9 b v0) wd_38 wd_39 wd_1 wd_40 rfl ci_X9 rfl rfl (by decide) ⟨(show cz + 1 + 116 ≤ 600312 by omega), (show sz + 16 + 10153 ≤ 7292578 by omega)⟩ (Nat.le_of_ble_eq_true rfl) dL_law_462 (fun e0 => ?_)
  refine zc_astore_n (lv' := [(2, .ref a0), (0, .ref b)]) K dL_law_465 rfl (by decide) rfl ?_
  exact k a0 e0
theorem zIn {A : Nat → Prop} : va_D A ([] : va_W) := ⟨fun i j p q h => by simp at h, fun k q h => by simp at h⟩
/-- what stands at the entry, beside the machine -/
def zPre0 (D : va_G) (ca : Nat → ClassId) (li : (Nat → Nat) × (Nat → Nat)) (b L : Nat) (xs : Nat → Int32) (s : State) : Prop := (∀ (ad : Nat → Nat) (base : Nat) (x : va_W) (sc : Nat × (Nat × (Nat → Int32))), zFix (D, (ca, (ad, (base, (x, (sc, li)))))) s) ∧ (∀ i, i < 7 → zStrF (li.1 i) (li.2 i) (zLitB.getD i []) (fun q => s.heap.size ≤ q) s s.heap) ∧ zJdk (fun q => s.heap.size ≤ q) s s.heap ∧ va_X b L xs s s.heap ∧ b < s.heap.size ∧ vx_Zq Bundle.tN "UNASSIGNED_STACK" Bundle.steD (fun q => s.heap.size ≤ q) s s.heap ∧ vx_Zq Bundle.tN "SUPPRESSED_SENTINEL" Bundle.listD (fun q => s.heap.size ≤ q) s s.heap
def zG0 (D : va_G) (ca : Nat → ClassId) (li : (Nat → Nat) × (Nat → Nat)) (b L : Nat) (xs : Nat → Int32) (s : State) (ad : Nat → Nat) : GE := (D, (ca, (ad, (s.heap.size, ([], ((b, (L, xs)), li))))))
set_option maxRecDepth 100000 in
set_option maxHeartbeats 4000000 in
theorem z_enter {p : Program} {l : Launch} {e : Env} {s : State} {m : MethodId} {below : List Frame} {meth : Method} {c : Code} {b L : Nat} {xs : Nat → Int32} {Q : State → Prop} {D : va_G} {ca : Nat → ClassId} {li : (Nat → Nat) × (Nat → Nat)} (h0 : zPre0 D ca li b L xs s) (K : zCc p l s m #[Value.ref b] meth c (zG0 D ca li b L xs s (fun _ => 0)) RL cL_law 11) {pc j : Nat} {cz sz a0 : Nat} {e0 : Nat → Nat}
    (k : ∀ ad : Nat → Nat, zCx p l s m #[Value.ref b] meth c (zG0 D ca li b L xs s ad) RL cL_law 11 → WM p l e room_1 s m #[Value.ref b] below meth c (zG0 D ca li b L xs s ad) 11 cz sz Q pc [(0, .ref b), (j, .ref (ad 0))] [] (u0, W0)) :
    WC p l e room_1 s m #[Value.ref b] below meth c (zG0 D ca li b L xs s (fun _ => 0)) 11 cz sz Q pc [(j, .ref a0), (0, .ref b)] [] [] ([] ++ ZF9 (zG0 D ca li b L xs s (fun _ => 0)) a0 e0) := by
  obtain ⟨hfix, hlit, hjdk, hX, hbl, hT1, hT2⟩ := h0
  intro H locs ls hl hP hD hS
  obtain ⟨hP, hD⟩ := z_row8 rfl (by rw [List.nil_append] at hP; exact hP) (by rw [List.nil_append] at hD; exact hD)
  have hz : zW (zG0 D ca li b L xs s (zAd a0 e0)) (u0, W0) = _ := z_first D ca (s.heap.size, ([], ((b, (L, xs)), li))) rfl (zG0 D ca li b L xs s (fun _ => 0)) a0 e0 rfl
  have hP : va_P D zCl (zW (zG0 D ca li b L xs s (zAd a0 e0)) (u0, W0)) H := by
    rw [hz]
    exact hP
  have hD : va_D (fun q => s.heap.size ≤ q) (zW (zG0 D ca li b L xs s (zAd a0 e0)) (u0, W0)) := by
    rw [hz]
    exact hD
  have hA : ∀ ad, zA (zG0 D ca li b L xs s ad) = fun q => s.heap.size ≤ q := fun ad => rfl
  have henv : zEnv (zG0 D ca li b L xs s (zAd a0 e0)) s s.heap := ⟨hlit, hjdk, hX, Nat.not_le.mpr hbl⟩
  have C : zCx p l s m #[Value.ref b] meth c (zG0 D ca li b L xs s (zAd a0 e0)) RL cL_law 11 := ⟨K.hx, K.hb, K.hml, K.hown, K.ht, K.hlocks, hfix _ _ _ _, zDist_of (g := zG0 D ca li b L xs s (zAd a0 e0)) (M := (u0, W0)) hD, Nat.le_refl _, henv, hT1, hT2⟩
  have hpic : zPic (zG0 D ca li b L xs s (zAd a0 e0)) (u0, W0) s H := ⟨hP, vx_Zq.kept hT1 (fun a ha hA => hS.2.1 a ha hA), vx_Zq.kept hT2 (fun a ha hA => hS.2.1 a ha hA), henv.kept (fun a ha hA => hS.2.1 a ha hA)⟩
  refine k (zAd a0 e0) C H locs ls ⟨hl.1, hl.2.1, fun q hq => hl.2.2 q ?_⟩ hpic hS
  rw [show zAd a0 e0 0 = a0 from rfl] at hq
  simp only [List.mem_cons, List.not_mem_nil, or_false] at hq ⊢
  exact hq.symm
set_option maxRecDepth 100000 in
set_option maxHeartbeats 4000000 in
theorem whole_run {p : Program} {l : Launch} {e : Env} {s : State} {m : MethodId} {below : List Frame} {meth : Method} {c : Code} {b L : Nat} {xs : Nat → Int32} {Q : State → Prop} (hstk : l.stackTraces = false)
    (hx : p.tables.exec = Jvm.exec) (hb : c.code = code) (hml : c.maxLocals = 11) (hown : s.vm.findClass RL = some m.cls) (hts : ∀ w ∈ lw_tbl, w.before #[Value.ref b] s = true) (hX : va_X b L xs s s.heap) (hbl : b < s.heap.size) (hlocks : meth.locks = false) (hgv : (Jvm.Cond.and given_1 narrow_1).before #[Value.ref b] s = true)
    (hend : ∀ (H : Heap) (locs : List Loc) (ls : Array Slot), (∀ q ∈ locs, s.heap.size ≤ q.base) → W p l e room_1 s m #[Value.ref b] below meth c H locs 600312 7292578 Q (F0 m 716 ls [.int 1])) (h1 : wb_R_lawe_8 xs L True u0) (h2 : wb_R_lawa_466 xs L True u0) : W p l e room_1 s m #[Value.ref b] below meth c s.heap [] 0 0 Q (entryFrame m ([Value.ref b] : List Value).toArray 11) := by
  obtain ⟨D, ca, li, hfix, hlit⟩ := z_fix hts hgv
  have hs := flat_of_before _ hgv
  have hjdk := zJdkOf hts hgv (fun q => s.heap.size ≤ q) (fun a ha => Nat.not_le.mpr ha)
  have hT1 : vx_Zq Bundle.tN "UNASSIGNED_STACK" Bundle.steD (fun q => s.heap.size ≤ q) s s.heap := vx_Zqof (args := #[Value.ref b]) (hts _ (by decide +kernel)) (hts _ (by decide +kernel)) (hs _ (by decide +kernel)) (fun a ha => Nat.not_le.mpr ha)
  have hT2 : vx_Zq Bundle.tN "SUPPRESSED_SENTINEL" Bundle.listD (fun q => s.heap.size ≤ q) s s.heap := vx_Zqof (args := #[Value.ref b]) (hts _ (by decide +kernel)) (hts _ (by decide +kernel)) (hs _ (by decide +kernel)) (fun a ha => Nat.not_le.mpr ha)
  have h0 : zPre0 D ca li b L xs s := ⟨hfix, hlit, hjdk, hX, hbl, hT1, hT2⟩
  rw [lg_entry_eq]
  have K : zCc p l s m #[Value.ref b] meth c (zG0 D ca li b L xs s (fun _ => 0)) RL cL_law 11 := ⟨hx, hb, hml, hown, zTBts hts, hlocks, hfix _ _ _ _, Nat.le_refl _, va_AO.of (hts _ zAO_ok)⟩
  refine whole_go1 K (by decide) (by decide) (fun a0 e0 => ?_) s.heap [] _ (lv_entry ([.ref b]) (n := 11) (Nat.le_of_ble_eq_true rfl)) (fun k q h => by simp at h) zIn va_S.rf
  refine z_enter h0 K (fun ad C => ?_)
  refine vb_R_lawe_8 (W := W0) (xs := xs) (L := L) rfl rfl hstk C (fun _ u cz sz hz hs => ?_) u0 _ _ (by decide) (by decide) h1
  intro H locs ls hl _ hS
  refine whole_go2 K (by omega) (by omega) (fun a1 e1 => ?_) H locs ls hl (fun k q h => by simp at h) zIn hS
  refine z_enter h0 K (fun ad' C' => ?_)
  refine vb_R_lawa_466 (W := W0) (xs := xs) (L := L) rfl rfl hstk C' rfl (fun _ aw u f => ?_) u0 _ _ (by omega) (by omega) h2
  intro H1 locs1 ls1 _ _ hS1
  exact hend H1 locs1 ls1 (fun q hq => hS1.2.2 q hq)
