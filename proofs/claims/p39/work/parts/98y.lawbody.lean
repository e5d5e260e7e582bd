/-! THE LAW: its own long row, its two halves -/
section ZLW
variable {p : Program} {l : Launch} {e : Env} {R : Room} {s : State} {m : MethodId} {args : Array Value} {below : List Frame} {meth : Method} {c : Code} {g : GE} {own : String} {cc : ByteArray} {nL cells slots : Nat} {Q : State → Prop} {pc : Nat} {lv : List (Nat × Value)} {st : List Value} {M : Mem}
/-- the world with the law's row of longs, its contents f -/
def gW (g : GE) (aw : Nat) (f : Nat → Int64) : GE := zGx g [(aw, .inl (g.2.1 2, 9, .inr (.inl f)))]
theorem gW_at {aw : Nat} {f : Nat → Int64} : (zW (gW g aw f) M)[117 + 0]? = some (aw, .inl (g.2.1 2, 9, .inr (.inl f))) := zW_atx g M _ 0
theorem zw_lald {aw : Nat} {f : Nat → Int64} (C : zCx p l s m args meth c (gW g aw f) own cc nL) {i : Int32} (hin : vp_in i 9) (d : decode cc pc = .ok (.laload, 1)) (k : WM p l e R s m args below meth c (gW g aw f) nL cells slots Q (pc + 1) lv (.long (f i.toNatClampNeg) :: st) M) : WM p l e R s m args below meth c (gW g aw f) nL cells slots Q pc lv (.int i :: .ref aw :: st) M :=
  fun H locs ls hl hp hs => va_lald C.hx C.hb C.hK hp.1 (117 + 0) 2 (gW_at (g := g) (M := M) (aw := aw) (f := f)) rfl hin d (k H locs ls hl hp hs)
theorem zw_last {aw : Nat} {f : Nat → Int64} (C : zCx p l s m args meth c (gW g aw f) own cc nL) {i : Int32} {x : Int64} (hin : vp_in i 9) (d : decode cc pc = .ok (.lastore, 1)) (k : ∀ f', f' = vp_updL f i.toNatClampNeg x → WM p l e R s m args below meth c (gW g aw f') nL cells slots Q (pc + 1) lv st M) : WM p l e R s m args below meth c (gW g aw f) nL cells slots Q pc lv (.long x :: .int i :: .ref aw :: st) M := by
  intro H locs ls hl hp hs
  refine va_last C.hx C.hb C.hK hp.1 (C.hdist M) hs (117 + 0) 2 (gW_at (g := g) (M := M) (aw := aw) (f := f)) rfl hin d (fun H1 locs1 hP1 hD1 hS1 => ?_)
  have e : (zW (gW g aw f) M).set (117 + 0) (aw, .inl (g.2.1 2, 9, .inr (.inl (vp_updL f i.toNatClampNeg x)))) = zW (gW g aw (vp_updL f i.toNatClampNeg x)) M := zW_setx g M _ 0 _
  have hold := zOld C hs hS1
  refine k _ rfl H1 locs1 ls hl ⟨?_, vx_Zq.kept hp.2.1 hold, vx_Zq.kept hp.2.2.1 hold, hp.2.2.2.kept hold⟩ hS1
  rw [← e]
  exact hP1
theorem zw_newL (C : zCx p l s m args meth c g own cc nL) (hx0 : g.2.2.2.2.1 = []) (w1 : Cond.arrayClass .long ∈ TB) (hcells : cells + 1 ≤ R.cells) (hslots : slots + 9 ≤ R.slots) (d : decode cc pc = .ok (.newarray .long, 2)) (k : ∀ aw : Nat, (∀ f, zCx p l s m args meth c (gW g aw f) own cc nL) → WM p l e R s m args below meth c (gW g aw (fun _ => 0)) nL (cells + 1) (slots + 9) Q (pc + 2) lv (.ref aw :: st) M) : WM p l e R s m args below meth c g nL cells slots Q pc lv (.int 9 :: st) M := by
  intro H locs ls hl hp hs
  refine va_newaK (atype := .long) (N := 9) C.hx C.hb (C.ht _ w1) rfl d rfl (by decide) (by decide) (by decide) hcells hslots rfl fun H1 cA e1 z1 o1 hAr hNm => ?_
  have hcA : cA = g.2.1 2 := by
    have h1 := (C.hK.2 2 _ rfl).2
    exact Option.some.inj (hNm.symm.trans h1)
  have hk : ∀ (k : Nat) (x : Nat × va_E), (zW g M)[k]? = some x → H1[x.1]? = H[x.1]? := fun k x hx => o1 x.1 ((hp.1 k x hx).lt)
  have hlt : ∀ q : Nat, q < s.heap.size → q < H.size := fun q hq => Nat.lt_of_lt_of_le hq hs.1
  have hS1 : va_S (zA g) s.heap H1 locs := ⟨by rw [z1]; exact Nat.le_succ_of_le hs.1, fun x h1 h2 => (o1 x (hlt x h1)).trans (hs.2.1 x h1 h2), hs.2.2⟩
  have e : zW g M ++ [(H.size, .inl (g.2.1 2, 9, .inr (.inl (fun _ => 0))))] = zW (gW g H.size (fun _ => 0)) M := by
    rw [zW_app, hx0]; rfl
  have hD : va_D (zA g) (zW (gW g H.size (fun _ => 0)) M) := by
    rw [← e]
    exact (C.hdist M).push hp.1 rfl (C.hA _ hs.1)
  have hP : va_P g.1 zCl (zW (gW g H.size (fun _ => 0)) M) H1 := by
    rw [← e]
    refine (hp.1.kept hk).app (fun k x hx => ?_)
    have hz : k < 1 := (List.getElem?_eq_some_iff.mp hx).1
    rw [show k = 0 by omega] at hx
    cases hx
    show H1[H.size]? = some (vp_cell _ _)
    rw [← hcA]
    exact e1
  have hDf : ∀ f, zDist (gW g H.size f) := fun f => zDist_of (g := gW g H.size f) (M := M) (by
    have e2 : ∀ f, zW (gW g H.size f) M = zW g M ++ [(H.size, .inl (g.2.1 2, 9, .inr (.inl f)))] := fun f => by rw [zW_app, hx0]; rfl
    rw [e2]
    exact (C.hdist M).push hp.1 rfl (C.hA _ hs.1))
  have hold := zOld C hs hS1
  exact k H.size (fun f => zCxX C (hDf f)) H1 locs ls hl ⟨hP, vx_Zq.kept hp.2.1 hold, vx_Zq.kept hp.2.2.1 hold, hp.2.2.2.kept hold⟩ hS1
end ZLW
theorem wd_306 : (Jvm.Cond.methodLink "FoxBurrowsLaw" (294 : Nat) ({ cls := "FoxBurrows", name := "save", desc := "()I" } : Jvm.MethodName)) ∈ TB := zTB 306 (by decide +kernel) (by decide +kernel)
theorem wd_307 : (Jvm.Cond.instanceMethod ({ cls := "FoxBurrows", name := "save", desc := "()I" } : Jvm.MethodName)) ∈ TB := zTB 307 (by decide +kernel) (by decide +kernel)
theorem wd_308 : (Jvm.Cond.selects "FoxBurrows" ({ cls := "FoxBurrows", name := "save", desc := "()I" } : Jvm.MethodName) ({ cls := "FoxBurrows", name := "save", desc := "()I" } : Jvm.MethodName)) ∈ TB := zTB 308 (by decide +kernel) (by decide +kernel)
theorem wd_309 : (Jvm.Cond.code ({ cls := "FoxBurrows", name := "save", desc := "()I" } : Jvm.MethodName) prog_1_method_36_code (1 : Nat) (Option.some Jvm.ClassFile.FieldType.int)) ∈ TB := zTB 309 (by decide +kernel) (by decide +kernel)
theorem wd_843 : (Jvm.Cond.methodLink "FoxBurrowsLaw" (290 : Nat) ({ cls := "FoxBurrowsLaw", name := "undo", desc := "(LFoxBurrows;)I" } : Jvm.MethodName)) ∈ TB := zTB 843 (by decide +kernel) (by decide +kernel)
theorem wd_844 : (Jvm.Cond.static ({ cls := "FoxBurrowsLaw", name := "undo", desc := "(LFoxBurrows;)I" } : Jvm.MethodName)) ∈ TB := zTB 844 (by decide +kernel) (by decide +kernel)
theorem wd_845 : (Jvm.Cond.codeWith ({ cls := "FoxBurrowsLaw", name := "undo", desc := "(LFoxBurrows;)I" } : Jvm.MethodName) method_35_code (2 : Nat) (Option.some Jvm.ClassFile.FieldType.int) [((0 : Nat), (4 : Nat), (5 : Nat), (101 : Nat))]) ∈ TB := zTB 845 (by decide +kernel) (by decide +kernel)
theorem wd_855 : (Jvm.Cond.methodLink "FoxBurrowsLaw" (292 : Nat) ({ cls := "FoxBurrowsLaw", name := "restore", desc := "(LFoxBurrows;)I" } : Jvm.MethodName)) ∈ TB := zTB 855 (by decide +kernel) (by decide +kernel)
theorem wd_856 : (Jvm.Cond.static ({ cls := "FoxBurrowsLaw", name := "restore", desc := "(LFoxBurrows;)I" } : Jvm.MethodName)) ∈ TB := zTB 856 (by decide +kernel) (by decide +kernel)
theorem wd_857 : (Jvm.Cond.codeWith ({ cls := "FoxBurrowsLaw", name := "restore", desc := "(LFoxBurrows;)I" } : Jvm.MethodName) method_36_code (2 : Nat) (Option.some Jvm.ClassFile.FieldType.int) [((0 : Nat), (4 : Nat), (5 : Nat), (101 : Nat))]) ∈ TB := zTB 857 (by decide +kernel) (by decide +kernel)
theorem wd_891 : (Jvm.Cond.methodLink "FoxBurrowsLaw" (297 : Nat) ({ cls := "FoxBurrowsLaw", name := "makes", desc := "(LFoxBurrows;[I)Z" } : Jvm.MethodName)) ∈ TB := zTB 891 (by decide +kernel) (by decide +kernel)
theorem wd_892 : (Jvm.Cond.static ({ cls := "FoxBurrowsLaw", name := "makes", desc := "(LFoxBurrows;[I)Z" } : Jvm.MethodName)) ∈ TB := zTB 892 (by decide +kernel) (by decide +kernel)
theorem wd_893 : (Jvm.Cond.code ({ cls := "FoxBurrowsLaw", name := "makes", desc := "(LFoxBurrows;[I)Z" } : Jvm.MethodName) method_40_code (5 : Nat) (Option.some Jvm.ClassFile.FieldType.boolean)) ∈ TB := zTB 893 (by decide +kernel) (by decide +kernel)
theorem wd_1094 : (Jvm.Cond.methodLink "FoxBurrowsLaw" (305 : Nat) ({ cls := "FoxBurrowsLaw", name := "changes", desc := "(LFoxBurrows;I)Z" } : Jvm.MethodName)) ∈ TB := zTB 1094 (by decide +kernel) (by decide +kernel)
theorem wd_1095 : (Jvm.Cond.static ({ cls := "FoxBurrowsLaw", name := "changes", desc := "(LFoxBurrows;I)Z" } : Jvm.MethodName)) ∈ TB := zTB 1095 (by decide +kernel) (by decide +kernel)
theorem wd_1096 : (Jvm.Cond.code ({ cls := "FoxBurrowsLaw", name := "changes", desc := "(LFoxBurrows;I)Z" } : Jvm.MethodName) method_42_code (4 : Nat) (Option.some Jvm.ClassFile.FieldType.boolean)) ∈ TB := zTB 1096 (by decide +kernel) (by decide +kernel)
theorem wd_1390 : (Jvm.Cond.methodLink "FoxBurrowsLaw" (301 : Nat) ({ cls := "FoxBurrowsLaw", name := "refused", desc := "(LFoxBurrows;)Z" } : Jvm.MethodName)) ∈ TB := zTB 1390 (by decide +kernel) (by decide +kernel)
theorem wd_1391 : (Jvm.Cond.static ({ cls := "FoxBurrowsLaw", name := "refused", desc := "(LFoxBurrows;)Z" } : Jvm.MethodName)) ∈ TB := zTB 1391 (by decide +kernel) (by decide +kernel)
theorem wd_1392 : (Jvm.Cond.code ({ cls := "FoxBurrowsLaw", name := "refused", desc := "(LFoxBurrows;)Z" } : Jvm.MethodName) method_43_code (6 : Nat) (Option.some Jvm.ClassFile.FieldType.boolean)) ∈ TB := zTB 1392 (by decide +kernel) (by decide +kernel)
theorem hz_L_changes : (yL_changes.cls ≠ "java/lang/invoke/MethodHandle" ∧ yL_changes.cls ≠ "java/lang/invoke/VarHandle" ∧ (parseMethodDescriptor yL_changes.desc).map (fun d => d.parameters.length) = some 2) := ⟨by decide +kernel, by decide +kernel, by decide +kernel⟩
theorem hy_L_changes : yL_changes.cls = RL ∧ (yL_changes.cls ≠ "java/lang/invoke/MethodHandle" ∧ yL_changes.cls ≠ "java/lang/invoke/VarHandle" ∧ (parseMethodDescriptor yL_changes.desc).map (fun d => d.parameters.length) = some 2) := ⟨rfl, hz_L_changes⟩
theorem hz_L_makes : (yL_makes.cls ≠ "java/lang/invoke/MethodHandle" ∧ yL_makes.cls ≠ "java/lang/invoke/VarHandle" ∧ (parseMethodDescriptor yL_makes.desc).map (fun d => d.parameters.length) = some 2) := ⟨by decide +kernel, by decide +kernel, by decide +kernel⟩
theorem hy_L_makes : yL_makes.cls = RL ∧ (yL_makes.cls ≠ "java/lang/invoke/MethodHandle" ∧ yL_makes.cls ≠ "java/lang/invoke/VarHandle" ∧ (parseMethodDescriptor yL_makes.desc).map (fun d => d.parameters.length) = some 2) := ⟨rfl, hz_L_makes⟩
theorem hz_L_refused : (yL_refused.cls ≠ "java/lang/invoke/MethodHandle" ∧ yL_refused.cls ≠ "java/lang/invoke/VarHandle" ∧ (parseMethodDescriptor yL_refused.desc).map (fun d => d.parameters.length) = some 1) := ⟨by decide +kernel, by decide +kernel, by decide +kernel⟩
theorem hy_L_refused : yL_refused.cls = RL ∧ (yL_refused.cls ≠ "java/lang/invoke/MethodHandle" ∧ yL_refused.cls ≠ "java/lang/invoke/VarHandle" ∧ (parseMethodDescriptor yL_refused.desc).map (fun d => d.parameters.length) = some 1) := ⟨rfl, hz_L_refused⟩
theorem hz_L_restore : (yL_restore.cls ≠ "java/lang/invoke/MethodHandle" ∧ yL_restore.cls ≠ "java/lang/invoke/VarHandle" ∧ (parseMethodDescriptor yL_restore.desc).map (fun d => d.parameters.length) = some 1) := ⟨by decide +kernel, by decide +kernel, by decide +kernel⟩
theorem hy_L_restore : yL_restore.cls = RL ∧ (yL_restore.cls ≠ "java/lang/invoke/MethodHandle" ∧ yL_restore.cls ≠ "java/lang/invoke/VarHandle" ∧ (parseMethodDescriptor yL_restore.desc).map (fun d => d.parameters.length) = some 1) := ⟨rfl, hz_L_restore⟩
theorem hz_L_undo : (yL_undo.cls ≠ "java/lang/invoke/MethodHandle" ∧ yL_undo.cls ≠ "java/lang/invoke/VarHandle" ∧ (parseMethodDescriptor yL_undo.desc).map (fun d => d.parameters.length) = some 1) := ⟨by decide +kernel, by decide +kernel, by decide +kernel⟩
theorem hy_L_undo : yL_undo.cls = RL ∧ (yL_undo.cls ≠ "java/lang/invoke/MethodHandle" ∧ yL_undo.cls ≠ "java/lang/invoke/VarHandle" ∧ (parseMethodDescriptor yL_undo.desc).map (fun d => d.parameters.length) = some 1) := ⟨rfl, hz_L_undo⟩
theorem hz_X9_save : (yX9_save.cls ≠ "java/lang/invoke/MethodHandle" ∧ yX9_save.cls ≠ "java/lang/invoke/VarHandle" ∧ (parseMethodDescriptor yX9_save.desc).map (fun d => d.parameters.length) = some 0) := ⟨by decide +kernel, by decide +kernel, by decide +kernel⟩
theorem hy_X9_save : yX9_save.cls = RX9 ∧ (yX9_save.cls ≠ "java/lang/invoke/MethodHandle" ∧ yX9_save.cls ≠ "java/lang/invoke/VarHandle" ∧ (parseMethodDescriptor yX9_save.desc).map (fun d => d.parameters.length) = some 0) := ⟨rfl, hz_X9_save⟩
def wl_R_lawb_608 (xs : Nat → Int32) (L : Nat) (Q : Prop) : Nat → Int64 → Int32 → Int32 → Int32 → (MU) → (Nat → Int64) → Prop
  | 0, _, _, _, _, _, _ => False
  | n + 1, x3, x5, x7, x8, u, f => ((x7 < x8) → w_R_restore  u (fun r_2 u_3 => ((¬ r_2 = x5) → False) ∧ ((r_2 = x5) → w_R_undo  u_3 (fun r_5 u_6 => ((¬ r_5 = (-1001 : Int32)) → False) ∧ ((r_5 = (-1001 : Int32)) → w_R_asks  u_6 (fun r_8 u_9 => ((¬ (lg_cmp r_8 x3) = 0) → False) ∧ (((lg_cmp r_8 x3) = 0) → w_R_restore  u_9 (fun r_11 u_12 => ((¬ r_11 = x5) → False) ∧ ((r_11 = x5) → w_R_asks  u_12 (fun r_14 u_15 => ((¬ (lg_cmp r_14 x3) = 0) → False) ∧ (((lg_cmp r_14 x3) = 0) → Q))))))))))) ∧ ((¬ x7 < x8) → w_R_undo  u (fun r_17 u_18 => ((r_17 < (x7 - x8)) → False) ∧ ((¬ r_17 < (x7 - x8)) → ((((8 : Int32) - x8) < r_17) → False) ∧ ((¬ ((8 : Int32) - x8) < r_17) → w_R_asks  u_18 (fun r_21 u_22 => vp_in (x7 - x8) 9 ∧ ((((lg_cmp r_21 (f ((x7 - x8)).toNatClampNeg)) = 0) → ∀ x8_25, x8_25 = x8 + (1 : Int32) → wl_R_lawb_608 xs L Q n x3 x5 x7 x8_25 u_22 f) ∧ ((¬ (lg_cmp r_21 (f ((x7 - x8)).toNatClampNeg)) = 0) → False)))))))
set_option maxHeartbeats 4000000 in
set_option maxRecDepth 100000 in
theorem vl_R_lawb_608 {p : Program} {l : Launch} {e : Env} {s : State} {m : MethodId} {args : Array Value} {below : List Frame} {meth : Method} {c : Code} {g : GE} {W : MU × ((Nat → Int64) × (Nat → UInt64))} {Qz : State → Prop} {Q : Prop} {xs : Nat → Int32} {L : Nat} (hxs : g.2.2.2.2.2.1.2.2 = xs) (hLL : g.2.2.2.2.2.1.2.1 = L) (hstk : l.stackTraces = false) {aw : Nat} (hC : ∀ f, zCx p l s m args meth c (gW g aw f) RL cL_law 11) (hend : Q → ∀ (u : MU) (f : Nat → Int64), WM p l e room_1 s m args below meth c (gW g aw f) 11 600312 7292578 Qz 716 [] [.int 1] (u, W)) : ∀ (n : Nat) (x3 : Int64) (x5 : Int32) (x7 : Int32) (x8 : Int32) (u : MU) (f : Nat → Int64) (cz sz : Nat), cz + (n * 688 + 2065 + 0) ≤ 600312 → sz + 6 * (n * 688 + 2065 + 0) ≤ 7292578 → wl_R_lawb_608 xs L Q n x3 x5 x7 x8 u f → WM p l e room_1 s m args below meth c (gW g aw f) 11 cz sz Qz 608 [(2, .ref (g.2.2.1 0)), (3, .long x3), (5, .int x5), (6, .ref aw), (7, .int x7), (8, .int x8)] [] (u, W) := by
  intro n
  induction n with
  | zero => intro _ _ _ _ _ _ _ _ _ _ h; exact h.elim
  | succ n ih =>
    intro x3 x5 x7 x8 u f cz sz hz hs h
    unfold wl_R_lawb_608 at h
    rw [Nat.succ_mul] at hz hs
    refine zm_iload (hC _) dL_law_608 5 rfl ?_
    refine zm_iload (hC _) dL_law_610 4 rfl ?_
    refine zm_icmp_gt (tgt := 665) (hC _) dL_law_612 (by decide) (fun hc_1 => ?_) (fun hc_1 => ?_)
    · have h := h.1 hc_1
      refine zm_aload_n (hC _) dL_law_665 rfl 0 rfl ?_
      refine zm_ci (zr_SW (As := [.ref (g.2.2.1 0)]) (rest := []) (hC _) (c_L_restore l hstk _ u W  h) wd_855 wd_856 wd_0 wd_857 hz_L_restore rfl rfl ⟨by decide, by decide⟩ ⟨(show cz + 1 ≤ 600312 by omega), (show sz + 6 ≤ 7292578 by omega)⟩ rfl rfl (Nat.le_of_ble_eq_true rfl) dL_law_666) (fun r_2 M1 hq => ?_)
      obtain ⟨u_3, rfl, h⟩ := hq
      refine zm_iload (hC _) dL_law_669 2 rfl ?_
      refine zm_icmp_ne (tgt := 715) (hC _) dL_law_671 (by decide) (fun hc_4 => ?_) (fun hc_4 => ?_)
      · have h := h.1 hc_4
        refine zm_iconst (v := 0) (hC _) dL_law_715 (by decide) ?_
        exact h.elim
      · have h := h.2 hc_4
        refine zm_aload_n (hC _) dL_law_674 rfl 0 rfl ?_
        refine zm_ci (zr_SW (As := [.ref (g.2.2.1 0)]) (rest := []) (hC _) (c_L_undo l hstk _ u_3 W  h) wd_843 wd_844 wd_0 wd_845 hz_L_undo rfl rfl ⟨by decide, by decide⟩ ⟨(show (cz + 1) + 1 ≤ 600312 by omega), (show (sz + 6) + 6 ≤ 7292578 by omega)⟩ rfl rfl (Nat.le_of_ble_eq_true rfl) dL_law_675) (fun r_5 M1 hq => ?_)
        obtain ⟨u_6, rfl, h⟩ := hq
        refine zm_sipush (v := -1001) (hC _) dL_law_678 (by decide) ?_
        refine zm_icmp_ne (tgt := 715) (hC _) dL_law_681 (by decide) (fun hc_7 => ?_) (fun hc_7 => ?_)
        · have h := h.1 hc_7
          refine zm_iconst (v := 0) (hC _) dL_law_715 (by decide) ?_
          exact h.elim
        · have h := h.2 hc_7
          refine zm_aload_n (hC _) dL_law_684 rfl 0 rfl ?_
          refine zm_cl (zr_S (As := [.ref (g.2.2.1 0)]) (rest := []) (hC _) (c_L_asks l hstk _ u_6 W  h) wd_904 wd_905 wd_0 wd_906 hy_L_asks rfl rfl ⟨by decide, by decide⟩ ⟨(show (cz + 2) + 687 ≤ 600312 by omega), (show (sz + 12) + 4122 ≤ 7292578 by omega)⟩ rfl rfl (Nat.le_of_ble_eq_true rfl) dL_law_685) (fun r_8 M1 hq => ?_)
          obtain ⟨u_9, rfl, h⟩ := hq
          refine zm_lload_n (hC _) dL_law_688 rfl 1 rfl ?_
          refine zm_lcmp (hC _) dL_law_689 ?_
          refine zm_if_ne (tgt := 715) (hC _) dL_law_690 (by decide) (fun hc_10 => ?_) (fun hc_10 => ?_)
          · have h := h.1 hc_10
            refine zm_iconst (v := 0) (hC _) dL_law_715 (by decide) ?_
            exact h.elim
          · have h := h.2 hc_10
            refine zm_aload_n (hC _) dL_law_693 rfl 0 rfl ?_
            refine zm_ci (zr_SW (As := [.ref (g.2.2.1 0)]) (rest := []) (hC _) (c_L_restore l hstk _ u_9 W  h) wd_855 wd_856 wd_0 wd_857 hz_L_restore rfl rfl ⟨by decide, by decide⟩ ⟨(show (cz + 689) + 1 ≤ 600312 by omega), (show (sz + 4134) + 6 ≤ 7292578 by omega)⟩ rfl rfl (Nat.le_of_ble_eq_true rfl) dL_law_694) (fun r_11 M1 hq => ?_)
            obtain ⟨u_12, rfl, h⟩ := hq
            refine zm_iload (hC _) dL_law_697 2 rfl ?_
            refine zm_icmp_ne (tgt := 715) (hC _) dL_law_699 (by decide) (fun hc_13 => ?_) (fun hc_13 => ?_)
            · have h := h.1 hc_13
              refine zm_iconst (v := 0) (hC _) dL_law_715 (by decide) ?_
              exact h.elim
            · have h := h.2 hc_13
              refine zm_aload_n (hC _) dL_law_702 rfl 0 rfl ?_
              refine zm_cl (zr_S (As := [.ref (g.2.2.1 0)]) (rest := []) (hC _) (c_L_asks l hstk _ u_12 W  h) wd_904 wd_905 wd_0 wd_906 hy_L_asks rfl rfl ⟨by decide, by decide⟩ ⟨(show (cz + 690) + 687 ≤ 600312 by omega), (show (sz + 4140) + 4122 ≤ 7292578 by omega)⟩ rfl rfl (Nat.le_of_ble_eq_true rfl) dL_law_703) (fun r_14 M1 hq => ?_)
              obtain ⟨u_15, rfl, h⟩ := hq
              refine zm_lload_n (hC _) dL_law_706 rfl 1 rfl ?_
              refine zm_lcmp (hC _) dL_law_707 ?_
              refine zm_if_ne (tgt := 715) (hC _) dL_law_708 (by decide) (fun hc_16 => ?_) (fun hc_16 => ?_)
              · have h := h.1 hc_16
                refine zm_iconst (v := 0) (hC _) dL_law_715 (by decide) ?_
                exact h.elim
              · have h := h.2 hc_16
                refine zm_iconst (v := 1) (hC _) dL_law_711 (by decide) ?_
                refine zm_goto (tgt := 716) (hC _) dL_law_712 (by decide) ?_
                refine zm_sub [] (lv' := []) rfl ?_
                exact zm_widen (by omega) (by omega) (hend h _ _)
    · have h := h.2 hc_1
      refine zm_aload_n (hC _) dL_law_615 rfl 0 rfl ?_
      refine zm_ci (zr_SW (As := [.ref (g.2.2.1 0)]) (rest := []) (hC _) (c_L_undo l hstk _ u W  h) wd_843 wd_844 wd_0 wd_845 hz_L_undo rfl rfl ⟨by decide, by decide⟩ ⟨(show cz + 1 ≤ 600312 by omega), (show sz + 6 ≤ 7292578 by omega)⟩ rfl rfl (Nat.le_of_ble_eq_true rfl) dL_law_616) (fun r_17 M1 hq => ?_)
      obtain ⟨u_18, rfl, h⟩ := hq
      refine zm_istore (lv' := [(9, .int r_17), (2, .ref (g.2.2.1 0)), (3, .long x3), (5, .int x5), (6, .ref aw), (7, .int x7), (8, .int x8)]) (hC _) dL_law_619 (by decide) rfl ?_
      refine zm_iload (hC _) dL_law_621 0 rfl ?_
      refine zm_iload (hC _) dL_law_623 5 rfl ?_
      refine zm_iload (hC _) dL_law_625 6 rfl ?_
      refine zm_isub (hC _) dL_law_627 ?_
      refine zm_icmp_lt (tgt := 657) (hC _) dL_law_628 (by decide) (fun hc_19 => ?_) (fun hc_19 => ?_)
      · have h := h.1 hc_19
        refine zm_iconst (v := 0) (hC _) dL_law_657 (by decide) ?_
        exact h.elim
      · have h := h.2 hc_19
        refine zm_iload (hC _) dL_law_631 0 rfl ?_
        refine zm_bipush (v := 8) (hC _) dL_law_633 (by decide) ?_
        refine zm_iload (hC _) dL_law_635 6 rfl ?_
        refine zm_isub (hC _) dL_law_637 ?_
        refine zm_icmp_gt (tgt := 657) (hC _) dL_law_638 (by decide) (fun hc_20 => ?_) (fun hc_20 => ?_)
        · have h := h.1 hc_20
          refine zm_iconst (v := 0) (hC _) dL_law_657 (by decide) ?_
          exact h.elim
        · have h := h.2 hc_20
          refine zm_aload_n (hC _) dL_law_641 rfl 1 rfl ?_
          refine zm_cl (zr_S (As := [.ref (g.2.2.1 0)]) (rest := []) (hC _) (c_L_asks l hstk _ u_18 W  h) wd_904 wd_905 wd_0 wd_906 hy_L_asks rfl rfl ⟨by decide, by decide⟩ ⟨(show (cz + 1) + 687 ≤ 600312 by omega), (show (sz + 6) + 4122 ≤ 7292578 by omega)⟩ rfl rfl (Nat.le_of_ble_eq_true rfl) dL_law_642) (fun r_21 M1 hq => ?_)
          obtain ⟨u_22, rfl, h⟩ := hq
          refine zm_aload (hC _) dL_law_645 4 rfl ?_
          refine zm_iload (hC _) dL_law_647 5 rfl ?_
          refine zm_iload (hC _) dL_law_649 6 rfl ?_
          refine zm_isub (hC _) dL_law_651 ?_
          obtain ⟨hg_23, h⟩ := h
          refine zw_lald (hC _) hg_23 dL_law_652 ?_
          refine zm_lcmp (hC _) dL_law_653 ?_
          refine zm_if_eq (tgt := 659) (hC _) dL_law_654 (by decide) (fun hc_24 => ?_) (fun hc_24 => ?_)
          · have h := h.1 hc_24
            obtain ⟨x8_25, hx8_25⟩ : ∃ z, z = x8 + (1 : Int32) := ⟨_, rfl⟩
            have h := h x8_25 hx8_25
            refine zm_iinc (v := x8_25) (lv' := [(8, .int x8_25), (9, .int r_17), (2, .ref (g.2.2.1 0)), (3, .long x3), (5, .int x5), (6, .ref aw), (7, .int x7)]) (hC _) dL_law_659 6 rfl (by rw [hx8_25]; rfl) (by decide) rfl ?_
            refine zm_goto (tgt := 608) (hC _) dL_law_662 (by decide) ?_
            exact zm_sub [2, 3, 4, 5, 6, 0] rfl (ih _ _ _ _ _ _ _ _ (by omega) (by omega) h)
          · have h := h.2 hc_24
            refine zm_iconst (v := 0) (hC _) dL_law_657 (by decide) ?_
            exact h.elim
def wb_R_lawb_599 (xs : Nat → Int32) (L : Nat) (L538 : Int64 → Int32 → Int32 → Int32 → (MU) → (Nat → Int64) → Prop) (Q : Prop) (x3 : Int64) (x5 : Int32) (x7 : Int32) (x8 : Int32) (u : MU) (f : Nat → Int64) : Prop := ∀ x8_1, x8_1 = x8 + (1 : Int32) → L538 x3 x5 x7 x8_1 u f
set_option maxHeartbeats 4000000 in
set_option maxRecDepth 100000 in
theorem vb_R_lawb_599 {p : Program} {l : Launch} {e : Env} {s : State} {m : MethodId} {args : Array Value} {below : List Frame} {meth : Method} {c : Code} {g : GE} {W : MU × ((Nat → Int64) × (Nat → UInt64))} {Qz : State → Prop} {Q : Prop} {xs : Nat → Int32} {L : Nat} (hxs : g.2.2.2.2.2.1.2.2 = xs) (hLL : g.2.2.2.2.2.1.2.1 = L) (hstk : l.stackTraces = false) {aw : Nat} (hC : ∀ f, zCx p l s m args meth c (gW g aw f) RL cL_law 11) (hend : Q → ∀ (u : MU) (f : Nat → Int64), WM p l e room_1 s m args below meth c (gW g aw f) 11 600312 7292578 Qz 716 [] [.int 1] (u, W)) {O538 : Nat} (hO538 : 9704 + 0 ≤ O538) {L538 : Int64 → Int32 → Int32 → Int32 → (MU) → (Nat → Int64) → Prop} (hL538 : ∀ (x3 : Int64) (x5 : Int32) (x7 : Int32) (x8 : Int32) (u : MU) (f : Nat → Int64) (cz sz : Nat), cz + O538 ≤ 600312 → sz + 6 * O538 ≤ 7292578 → L538 x3 x5 x7 x8 u f → WM p l e room_1 s m args below meth c (gW g aw f) 11 cz sz Qz 538 [(0, .ref g.2.2.2.2.2.1.1), (2, .ref (g.2.2.1 0)), (3, .long x3), (5, .int x5), (6, .ref aw), (7, .int x7), (8, .int x8)] [] (u, W)) (x3 : Int64) (x5 : Int32) (x7 : Int32) (x8 : Int32) (u : MU) (f : Nat → Int64) (cz sz : Nat) (hz : cz + 0 + O538 ≤ 600312) (hs : sz + 6 * (0 + O538) ≤ 7292578) (h : wb_R_lawb_599 xs L L538 Q x3 x5 x7 x8 u f) : WM p l e room_1 s m args below meth c (gW g aw f) 11 cz sz Qz 599 [(0, .ref g.2.2.2.2.2.1.1), (2, .ref (g.2.2.1 0)), (3, .long x3), (5, .int x5), (6, .ref aw), (7, .int x7), (8, .int x8)] [] (u, W) := by
  unfold wb_R_lawb_599 at h
  obtain ⟨x8_1, hx8_1⟩ : ∃ z, z = x8 + (1 : Int32) := ⟨_, rfl⟩
  have h := h x8_1 hx8_1
  refine zm_iinc (v := x8_1) (lv' := [(8, .int x8_1), (0, .ref g.2.2.2.2.2.1.1), (2, .ref (g.2.2.1 0)), (3, .long x3), (5, .int x5), (6, .ref aw), (7, .int x7)]) (hC _) dL_law_599 6 rfl (by rw [hx8_1]; rfl) (by decide) rfl ?_
  refine zm_goto (tgt := 538) (hC _) dL_law_602 (by decide) ?_
  exact zm_sub [1, 2, 3, 4, 5, 6, 0] rfl (hL538 _ _ _ _ _ _ _ _ (by omega) (by omega) h)
def wl_R_lawb_538 (xs : Nat → Int32) (L : Nat) (Q : Prop) : Nat → Int64 → Int32 → Int32 → Int32 → (MU) → (Nat → Int64) → Prop
  | 0, _, _, _, _, _, _ => False
  | n + 1, x3, x5, x7, x8, u, f => (((8 : Int32) ≤ x8) → ∃ nn, nn ≤ 9 ∧ wl_R_lawb_608 xs L Q nn x3 x5 x7 (1 : Int32) u f) ∧ ((¬ (8 : Int32) ≤ x8) → w_R_asks  u (fun r_2 u_3 => w_R_at xs L ((20 : Int32) + x8) (fun r_4 => w_R_changes (r_4 ^^^ (x8 * (977 : Int32))) u_3 (fun r_6 u_7 => ((r_6 = 0) → w_R_asks  u_7 (fun r_9 u_10 => (((lg_cmp r_9 r_2) = 0) → wb_R_lawb_599 xs L (fun x3' x5' x7' x8' u' f' => wl_R_lawb_538 xs L Q n x3' x5' x7' x8' u' f') Q x3 x5 x7 x8 u_10 f) ∧ ((¬ (lg_cmp r_9 r_2) = 0) → False))) ∧ ((¬ r_6 = 0) → ∀ x7_12, x7_12 = x7 + (1 : Int32) → vp_in x7 9 ∧ (∀ f_14, f_14 = vp_updL f (x7).toNatClampNeg r_2 → wb_R_lawb_599 xs L (fun x3' x5' x7' x8' u' f' => wl_R_lawb_538 xs L Q n x3' x5' x7' x8' u' f') Q x3 x5 x7_12 x8 u_7 f_14))))))
set_option maxHeartbeats 4000000 in
set_option maxRecDepth 100000 in
theorem vl_R_lawb_538 {p : Program} {l : Launch} {e : Env} {s : State} {m : MethodId} {args : Array Value} {below : List Frame} {meth : Method} {c : Code} {g : GE} {W : MU × ((Nat → Int64) × (Nat → UInt64))} {Qz : State → Prop} {Q : Prop} {xs : Nat → Int32} {L : Nat} (hxs : g.2.2.2.2.2.1.2.2 = xs) (hLL : g.2.2.2.2.2.1.2.1 = L) (hstk : l.stackTraces = false) {aw : Nat} (hC : ∀ f, zCx p l s m args meth c (gW g aw f) RL cL_law 11) (hend : Q → ∀ (u : MU) (f : Nat → Int64), WM p l e room_1 s m args below meth c (gW g aw f) 11 600312 7292578 Qz 716 [] [.int 1] (u, W)) : ∀ (n : Nat) (x3 : Int64) (x5 : Int32) (x7 : Int32) (x8 : Int32) (u : MU) (f : Nat → Int64) (cz sz : Nat), cz + (n * 1447 + 9704 + 0) ≤ 600312 → sz + 6 * (n * 1447 + 9704 + 0) ≤ 7292578 → wl_R_lawb_538 xs L Q n x3 x5 x7 x8 u f → WM p l e room_1 s m args below meth c (gW g aw f) 11 cz sz Qz 538 [(0, .ref g.2.2.2.2.2.1.1), (2, .ref (g.2.2.1 0)), (3, .long x3), (5, .int x5), (6, .ref aw), (7, .int x7), (8, .int x8)] [] (u, W) := by
  intro n
  induction n with
  | zero => intro _ _ _ _ _ _ _ _ _ _ h; exact h.elim
  | succ n ih =>
    intro x3 x5 x7 x8 u f cz sz hz hs h
    unfold wl_R_lawb_538 at h
    rw [Nat.succ_mul] at hz hs
    refine zm_iload (hC _) dL_law_538 6 rfl ?_
    refine zm_bipush (v := 8) (hC _) dL_law_540 (by decide) ?_
    refine zm_icmp_ge (tgt := 605) (hC _) dL_law_542 (by decide) (fun hc_1 => ?_) (fun hc_1 => ?_)
    · have h := h.1 hc_1
      refine zm_iconst (v := 1) (hC _) dL_law_605 (by decide) ?_
      refine zm_istore (lv' := [(8, .int (1 : Int32)), (0, .ref g.2.2.2.2.2.1.1), (2, .ref (g.2.2.1 0)), (3, .long x3), (5, .int x5), (6, .ref aw), (7, .int x7)]) (hC _) dL_law_606 (by decide) rfl ?_
      obtain ⟨nn, hnn, h⟩ := h
      exact zm_sub [2, 3, 4, 5, 6, 0] rfl (vl_R_lawb_608 hxs hLL hstk hC hend  nn _ _ _ _ _ _ _ _ (by omega) (by omega) h)
    · have h := h.2 hc_1
      refine zm_aload_n (hC _) dL_law_545 rfl 1 rfl ?_
      refine zm_cl (zr_S (As := [.ref (g.2.2.1 0)]) (rest := []) (hC _) (c_L_asks l hstk _ u W  h) wd_904 wd_905 wd_0 wd_906 hy_L_asks rfl rfl ⟨by decide, by decide⟩ ⟨(show cz + 687 ≤ 600312 by omega), (show sz + 4122 ≤ 7292578 by omega)⟩ rfl rfl (Nat.le_of_ble_eq_true rfl) dL_law_546) (fun r_2 M1 hq => ?_)
      obtain ⟨u_3, rfl, h⟩ := hq
      refine zm_lstore (lv' := [(9, .long r_2), (0, .ref g.2.2.2.2.2.1.1), (2, .ref (g.2.2.1 0)), (3, .long x3), (5, .int x5), (6, .ref aw), (7, .int x7), (8, .int x8)]) (hC _) dL_law_549 (by decide) rfl ?_
      refine zm_aload_n (hC _) dL_law_551 rfl 2 rfl ?_
      refine zm_aload_n (hC _) dL_law_552 rfl 1 rfl ?_
      refine zm_bipush (v := 20) (hC _) dL_law_553 (by decide) ?_
      refine zm_iload (hC _) dL_law_555 7 rfl ?_
      refine zm_iadd (hC _) dL_law_557 ?_
      refine zm_ci (zr_S (As := [.ref g.2.2.2.2.2.1.1, .int ((20 : Int32) + x8)]) (rest := [.ref (g.2.2.1 0)]) (hC _) (c_L_at l _ (u_3, W) hxs hLL ((20 : Int32) + x8) h) wd_332 wd_333 wd_0 wd_334 hy_L_at rfl rfl ⟨by decide, by decide⟩ ⟨(show (cz + 687) + 0 ≤ 600312 by omega), (show (sz + 4122) + 0 ≤ 7292578 by omega)⟩ rfl rfl (Nat.le_of_ble_eq_true rfl) dL_law_558) (fun r_4 M1 hq => ?_)
      obtain ⟨rfl, h⟩ := hq
      refine zm_iload (hC _) dL_law_561 7 rfl ?_
      refine zm_sipush (v := 977) (hC _) dL_law_563 (by decide) ?_
      refine zm_imul (hC _) dL_law_566 ?_
      refine zm_ixor (hC _) dL_law_567 ?_
      refine zm_ci (zr_S (As := [.ref (g.2.2.1 0), .int (r_4 ^^^ (x8 * (977 : Int32)))]) (rest := []) (hC _) (c_L_changes l hstk _ u_3 W (r_4 ^^^ (x8 * (977 : Int32))) h) wd_1094 wd_1095 wd_0 wd_1096 hy_L_changes rfl rfl ⟨by decide, by decide⟩ ⟨(show (cz + 687) + 73 ≤ 600312 by omega), (show (sz + 4122) + 438 ≤ 7292578 by omega)⟩ rfl rfl (Nat.le_of_ble_eq_true rfl) dL_law_568) (fun r_6 M1 hq => ?_)
      obtain ⟨u_7, rfl, h⟩ := hq
      refine zm_if_eq (tgt := 587) (hC _) dL_law_571 (by decide) (fun hc_8 => ?_) (fun hc_8 => ?_)
      · have h := h.1 hc_8
        refine zm_aload_n (hC _) dL_law_587 rfl 2 rfl ?_
        refine zm_cl (zr_S (As := [.ref (g.2.2.1 0)]) (rest := []) (hC _) (c_L_asks l hstk _ u_7 W  h) wd_904 wd_905 wd_0 wd_906 hy_L_asks rfl rfl ⟨by decide, by decide⟩ ⟨(show (cz + 760) + 687 ≤ 600312 by omega), (show (sz + 4560) + 4122 ≤ 7292578 by omega)⟩ rfl rfl (Nat.le_of_ble_eq_true rfl) dL_law_588) (fun r_9 M1 hq => ?_)
        obtain ⟨u_10, rfl, h⟩ := hq
        refine zm_lload (hC _) dL_law_591 0 rfl ?_
        refine zm_lcmp (hC _) dL_law_593 ?_
        refine zm_if_eq (tgt := 599) (hC _) dL_law_594 (by decide) (fun hc_11 => ?_) (fun hc_11 => ?_)
        · have h := h.1 hc_11
          exact zm_sub [1, 2, 3, 4, 5, 6, 7] rfl (vb_R_lawb_599 hxs hLL hstk hC hend (O538 := n * 1447 + 9704 + 0) (by omega) (fun _ _ _ _ _ _ _ _ h1 h2 h3 => ih _ _ _ _ _ _ _ _ (by omega) (by omega) h3) _ _ _ _ _ _ _ _ (by omega) (by omega) h)
        · have h := h.2 hc_11
          refine zm_iconst (v := 0) (hC _) dL_law_597 (by decide) ?_
          exact h.elim
      · have h := h.2 hc_8
        refine zm_aload (hC _) dL_law_574 5 rfl ?_
        refine zm_iload (hC _) dL_law_576 6 rfl ?_
        obtain ⟨x7_12, hx7_12⟩ : ∃ z, z = x7 + (1 : Int32) := ⟨_, rfl⟩
        have h := h x7_12 hx7_12
        refine zm_iinc (v := x7_12) (lv' := [(7, .int x7_12), (9, .long r_2), (0, .ref g.2.2.2.2.2.1.1), (2, .ref (g.2.2.1 0)), (3, .long x3), (5, .int x5), (6, .ref aw), (8, .int x8)]) (hC _) dL_law_578 6 rfl (by rw [hx7_12]; rfl) (by decide) rfl ?_
        refine zm_lload (hC _) dL_law_581 1 rfl ?_
        obtain ⟨hg_13, h⟩ := h
        refine zw_last (hC _) hg_13 dL_law_583 (fun f_14 hf_14 => ?_)
        have h := h f_14 hf_14
        refine zm_goto (tgt := 599) (hC _) dL_law_584 (by decide) ?_
        exact zm_sub [2, 3, 4, 5, 6, 0, 7] rfl (vb_R_lawb_599 hxs hLL hstk hC hend (O538 := n * 1447 + 9704 + 0) (by omega) (fun _ _ _ _ _ _ _ _ h1 h2 h3 => ih _ _ _ _ _ _ _ _ (by omega) (by omega) h3) _ _ _ _ _ _ _ _ (by omega) (by omega) h)
def wb_R_lawb_532 (xs : Nat → Int32) (L : Nat) (Q : Prop) (x3 : Int64) (x5 : Int32) (u : MU) (f : Nat → Int64) : Prop := ∃ nn, nn ≤ 9 ∧ wl_R_lawb_538 xs L Q nn x3 x5 (0 : Int32) (0 : Int32) u f
set_option maxHeartbeats 4000000 in
set_option maxRecDepth 100000 in
theorem vb_R_lawb_532 {p : Program} {l : Launch} {e : Env} {s : State} {m : MethodId} {args : Array Value} {below : List Frame} {meth : Method} {c : Code} {g : GE} {W : MU × ((Nat → Int64) × (Nat → UInt64))} {Qz : State → Prop} {Q : Prop} {xs : Nat → Int32} {L : Nat} (hxs : g.2.2.2.2.2.1.2.2 = xs) (hLL : g.2.2.2.2.2.1.2.1 = L) (hstk : l.stackTraces = false) {aw : Nat} (hC : ∀ f, zCx p l s m args meth c (gW g aw f) RL cL_law 11) (hend : Q → ∀ (u : MU) (f : Nat → Int64), WM p l e room_1 s m args below meth c (gW g aw f) 11 600312 7292578 Qz 716 [] [.int 1] (u, W)) (x3 : Int64) (x5 : Int32) (u : MU) (f : Nat → Int64) (cz sz : Nat) (hz : cz + 22727 + 0 ≤ 600312) (hs : sz + 6 * (22727 + 0) ≤ 7292578) (h : wb_R_lawb_532 xs L Q x3 x5 u f) : WM p l e room_1 s m args below meth c (gW g aw f) 11 cz sz Qz 532 [(0, .ref g.2.2.2.2.2.1.1), (2, .ref (g.2.2.1 0)), (3, .long x3), (5, .int x5), (6, .ref aw)] [] (u, W) := by
  unfold wb_R_lawb_532 at h
  refine zm_iconst (v := 0) (hC _) dL_law_532 (by decide) ?_
  refine zm_istore (lv' := [(7, .int (0 : Int32)), (0, .ref g.2.2.2.2.2.1.1), (2, .ref (g.2.2.1 0)), (3, .long x3), (5, .int x5), (6, .ref aw)]) (hC _) dL_law_533 (by decide) rfl ?_
  refine zm_iconst (v := 0) (hC _) dL_law_535 (by decide) ?_
  refine zm_istore (lv' := [(8, .int (0 : Int32)), (7, .int (0 : Int32)), (0, .ref g.2.2.2.2.2.1.1), (2, .ref (g.2.2.1 0)), (3, .long x3), (5, .int x5), (6, .ref aw)]) (hC _) dL_law_536 (by decide) rfl ?_
  obtain ⟨nn, hnn, h⟩ := h
  exact zm_sub [2, 3, 4, 5, 6, 1, 0] rfl (vl_R_lawb_538 hxs hLL hstk hC hend  nn _ _ _ _ _ _ _ _ (by omega) (by omega) h)
def wb_R_lawa_466 (xs : Nat → Int32) (L : Nat) (Q : Prop) (u : MU) : Prop := w_R_makes xs L  u (fun r_1 u_2 => ((¬ r_1 = 0) → w_R_asks  u_2 (fun r_4 u_5 => w_R_asks  u_5 (fun r_6 u_7 => ((¬ (lg_cmp r_6 r_4) = 0) → False) ∧ (((lg_cmp r_6 r_4) = 0) → w_R_refused  u_7 (fun r_9 u_10 => ((¬ r_9 = 0) → w_X9_save  u_10 (fun r_12 u_13 => w_R_account (0 : Int32) u_13 (fun r_14 u_15 => ((¬ r_12 = r_14) → False) ∧ ((r_12 = r_14) → w_R_asks  u_15 (fun r_17 u_18 => (((lg_cmp r_17 r_4) = 0) → wb_R_lawb_532 xs L Q r_4 r_12 u_18 (fun _ => 0)) ∧ ((¬ (lg_cmp r_17 r_4) = 0) → False)))))) ∧ ((r_9 = 0) → False)))))) ∧ ((r_1 = 0) → False))
set_option maxHeartbeats 4000000 in
set_option maxRecDepth 100000 in
theorem vb_R_lawa_466 {p : Program} {l : Launch} {e : Env} {s : State} {m : MethodId} {args : Array Value} {below : List Frame} {meth : Method} {c : Code} {g : GE} {W : MU × ((Nat → Int64) × (Nat → UInt64))} {Qz : State → Prop} {Q : Prop} {xs : Nat → Int32} {L : Nat} (hxs : g.2.2.2.2.2.1.2.2 = xs) (hLL : g.2.2.2.2.2.1.2.1 = L) (hstk : l.stackTraces = false) (C : zCx p l s m args meth c g RL cL_law 11) (hx0 : g.2.2.2.2.1 = []) (hend : Q → ∀ (aw : Nat) (u : MU) (f : Nat → Int64), WM p l e room_1 s m args below meth c (gW g aw f) 11 600312 7292578 Qz 716 [] [.int 1] (u, W)) (u : MU) (cz sz : Nat) (hz : cz + 26531 + 0 ≤ 600312) (hs : sz + 6 * (26531 + 0) ≤ 7292578) (h : wb_R_lawa_466 xs L Q u) : WM p l e room_1 s m args below meth c g 11 cz sz Qz 466 [(0, .ref g.2.2.2.2.2.1.1), (2, .ref (g.2.2.1 0))] [] (u, W) := by
  unfold wb_R_lawa_466 at h
  refine zm_aload_n C dL_law_466 rfl 1 rfl ?_
  refine zm_aload_n C dL_law_467 rfl 0 rfl ?_
  refine zm_ci (zr_S (As := [.ref (g.2.2.1 0), .ref g.2.2.2.2.2.1.1]) (rest := []) C (c_L_makes l hstk _ u W hxs hLL  h) wd_891 wd_892 wd_0 wd_893 hy_L_makes rfl rfl ⟨by decide, by decide⟩ ⟨(show cz + 38 ≤ 600312 by omega), (show sz + 228 ≤ 7292578 by omega)⟩ rfl rfl (Nat.le_of_ble_eq_true rfl) dL_law_468) (fun r_1 M1 hq => ?_)
  obtain ⟨u_2, rfl, h⟩ := hq
  refine zm_if_ne (tgt := 476) C dL_law_471 (by decide) (fun hc_3 => ?_) (fun hc_3 => ?_)
  · have h := h.1 hc_3
    refine zm_aload_n C dL_law_476 rfl 1 rfl ?_
    refine zm_cl (zr_S (As := [.ref (g.2.2.1 0)]) (rest := []) C (c_L_asks l hstk _ u_2 W  h) wd_904 wd_905 wd_0 wd_906 hy_L_asks rfl rfl ⟨by decide, by decide⟩ ⟨(show (cz + 38) + 687 ≤ 600312 by omega), (show (sz + 228) + 4122 ≤ 7292578 by omega)⟩ rfl rfl (Nat.le_of_ble_eq_true rfl) dL_law_477) (fun r_4 M1 hq => ?_)
    obtain ⟨u_5, rfl, h⟩ := hq
    refine zm_lstore_n (lv' := [(3, .long r_4), (0, .ref g.2.2.2.2.2.1.1), (2, .ref (g.2.2.1 0))]) C dL_law_480 rfl (by decide) rfl ?_
    refine zm_aload_n C dL_law_481 rfl 2 rfl ?_
    refine zm_cl (zr_S (As := [.ref (g.2.2.1 0)]) (rest := []) C (c_L_asks l hstk _ u_5 W  h) wd_904 wd_905 wd_0 wd_906 hy_L_asks rfl rfl ⟨by decide, by decide⟩ ⟨(show (cz + 725) + 687 ≤ 600312 by omega), (show (sz + 4350) + 4122 ≤ 7292578 by omega)⟩ rfl rfl (Nat.le_of_ble_eq_true rfl) dL_law_482) (fun r_6 M1 hq => ?_)
    obtain ⟨u_7, rfl, h⟩ := hq
    refine zm_lload_n C dL_law_485 rfl 0 rfl ?_
    refine zm_lcmp C dL_law_486 ?_
    refine zm_if_ne (tgt := 497) C dL_law_487 (by decide) (fun hc_8 => ?_) (fun hc_8 => ?_)
    · have h := h.1 hc_8
      refine zm_iconst (v := 0) C dL_law_497 (by decide) ?_
      exact h.elim
    · have h := h.2 hc_8
      refine zm_aload_n C dL_law_490 rfl 2 rfl ?_
      refine zm_ci (zr_S (As := [.ref (g.2.2.1 0)]) (rest := []) C (c_L_refused l hstk _ u_7 W  h) wd_1390 wd_1391 wd_0 wd_1392 hy_L_refused rfl rfl ⟨by decide, by decide⟩ ⟨(show (cz + 1412) + 1702 ≤ 600312 by omega), (show (sz + 8472) + 10212 ≤ 7292578 by omega)⟩ rfl rfl (Nat.le_of_ble_eq_true rfl) dL_law_491) (fun r_9 M1 hq => ?_)
      obtain ⟨u_10, rfl, h⟩ := hq
      refine zm_if_ne (tgt := 499) C dL_law_494 (by decide) (fun hc_11 => ?_) (fun hc_11 => ?_)
      · have h := h.1 hc_11
        refine zm_aload_n C dL_law_499 rfl 2 rfl ?_
        refine zm_ci (zr_V (As := []) (rest := []) C (c_X9_save l _ u_10 W  h) wd_306 wd_307 wd_308 wd_1 wd_309 hy_X9_save rfl rfl ⟨by decide, by decide⟩ ⟨(show (cz + 3114) + 0 ≤ 600312 by omega), (show (sz + 18684) + 0 ≤ 7292578 by omega)⟩ (ci := 9) (by decide) (zCell_k kd_0) rfl rfl rfl rfl (Nat.le_of_ble_eq_true rfl) dL_law_500) (fun r_12 M1 hq => ?_)
        obtain ⟨u_13, rfl, h⟩ := hq
        refine zm_istore (lv' := [(5, .int r_12), (3, .long r_4), (0, .ref g.2.2.2.2.2.1.1), (2, .ref (g.2.2.1 0))]) C dL_law_503 (by decide) rfl ?_
        refine zm_iload C dL_law_505 0 rfl ?_
        refine zm_aload_n C dL_law_507 rfl 3 rfl ?_
        refine zm_iconst (v := 0) C dL_law_508 (by decide) ?_
        refine zm_ci (zr_SW (As := [.ref (g.2.2.1 0), .int (0 : Int32)]) (rest := [.int r_12]) C (c_L_account l hstk _ u_13 W (0 : Int32) h) wd_823 wd_824 wd_0 wd_825 hz_L_account rfl rfl ⟨by decide, by decide⟩ ⟨(show (cz + 3114) + 1 ≤ 600312 by omega), (show (sz + 18684) + 6 ≤ 7292578 by omega)⟩ rfl rfl (Nat.le_of_ble_eq_true rfl) dL_law_509) (fun r_14 M1 hq => ?_)
        obtain ⟨u_15, rfl, h⟩ := hq
        refine zm_icmp_ne (tgt := 524) C dL_law_512 (by decide) (fun hc_16 => ?_) (fun hc_16 => ?_)
        · have h := h.1 hc_16
          refine zm_iconst (v := 0) C dL_law_524 (by decide) ?_
          exact h.elim
        · have h := h.2 hc_16
          refine zm_aload_n C dL_law_515 rfl 3 rfl ?_
          refine zm_cl (zr_S (As := [.ref (g.2.2.1 0)]) (rest := []) C (c_L_asks l hstk _ u_15 W  h) wd_904 wd_905 wd_0 wd_906 hy_L_asks rfl rfl ⟨by decide, by decide⟩ ⟨(show (cz + 3115) + 687 ≤ 600312 by omega), (show (sz + 18690) + 4122 ≤ 7292578 by omega)⟩ rfl rfl (Nat.le_of_ble_eq_true rfl) dL_law_516) (fun r_17 M1 hq => ?_)
          obtain ⟨u_18, rfl, h⟩ := hq
          refine zm_lload_n C dL_law_519 rfl 1 rfl ?_
          refine zm_lcmp C dL_law_520 ?_
          refine zm_if_eq (tgt := 526) C dL_law_521 (by decide) (fun hc_19 => ?_) (fun hc_19 => ?_)
          · have h := h.1 hc_19
            refine zm_bipush (v := 9) C dL_law_526 (by decide) ?_
            refine zw_newL C hx0 wd_1415 (show (cz + 3802) + 1 ≤ 600312 by omega) (show (sz + 22812) + 9 ≤ 7292578 by omega) dL_law_528 (fun aw hC => ?_)
            refine zm_widen (k1 := (cz + 3804)) (n1 := (sz + 22824)) (by omega) (by omega) ?_
            refine zm_astore (lv' := [(6, .ref aw), (5, .int r_12), (3, .long r_4), (0, .ref g.2.2.2.2.2.1.1), (2, .ref (g.2.2.1 0))]) (hC _) dL_law_530 (by decide) rfl ?_
            exact zm_sub [3, 4, 2, 1, 0] rfl (vb_R_lawb_532 hxs hLL hstk hC (fun q u f => hend q aw u f) _ _ _ _ _ _ (by omega) (by omega) h)
          · have h := h.2 hc_19
            refine zm_iconst (v := 0) C dL_law_524 (by decide) ?_
            exact h.elim
      · have h := h.2 hc_11
        refine zm_iconst (v := 0) C dL_law_497 (by decide) ?_
        exact h.elim
  · have h := h.2 hc_3
    refine zm_iconst (v := 0) C dL_law_474 (by decide) ?_
    exact h.elim
def wl_R_lawe_177 (xs : Nat → Int32) (L : Nat) (Q : Prop) : Nat → Int32 → (MU) → Prop
  | 0, _, _ => False
  | n + 1, x2, u => (((16 : Int32) ≤ x2) → w_R_tread (0 : Int32) (4 : Int32) u (fun r_2 u_3 => ((¬ r_2 = (-1001 : Int32)) → False) ∧ ((r_2 = (-1001 : Int32)) → w_R_is (2 : Int32) (16 : Int32) (0 : Int32) u_3 (fun r_5 u_6 => ((r_5 = 0) → False) ∧ ((¬ r_5 = 0) → w_R_account (9 : Int32) u_6 (fun r_8 u_9 => ((¬ r_8 = (8 : Int32)) → False) ∧ ((r_8 = (8 : Int32)) → w_R_account (4 : Int32) u_9 (fun r_11 u_12 => ((¬ r_11 = (336 : Int32)) → False) ∧ ((r_11 = (336 : Int32)) → w_R_burrowOf (0 : Int32) (0 : Int32) u_12 (fun r_14 u_15 => ((¬ r_14 = (4 : Int32)) → False) ∧ ((r_14 = (4 : Int32)) → w_R_burrowOf (7 : Int32) (1 : Int32) u_15 (fun r_17 u_18 => ((¬ r_17 = 0) → False) ∧ ((r_17 = 0) → w_R_grow (0 : Int32) (2 : Int32) u_18 (fun r_20 u_21 => ((¬ r_20 = (15 : Int32)) → False) ∧ ((r_20 = (15 : Int32)) → w_R_pathOf (8 : Int32) (0 : Int32) u_21 (fun r_23 u_24 => ((¬ r_23 = (1 : Int32)) → False) ∧ ((r_23 = (1 : Int32)) → w_R_pathOf (8 : Int32) (1 : Int32) u_24 (fun r_26 u_27 => ((¬ r_26 = (3 : Int32)) → False) ∧ ((r_26 = (3 : Int32)) → w_R_pathOf (14 : Int32) (1 : Int32) u_27 (fun r_29 u_30 => ((r_29 = (1 : Int32)) → w_R_undo  u_30 (fun r_32 u_33 => ((¬ r_32 = (7 : Int32)) → False) ∧ ((r_32 = (7 : Int32)) → w_R_account (1 : Int32) u_33 (fun r_35 u_36 => ((¬ r_35 = (16 : Int32)) → False) ∧ ((r_35 = (16 : Int32)) → w_R_undo  u_36 (fun r_38 u_39 => ((¬ r_38 = (6 : Int32)) → False) ∧ ((r_38 = (6 : Int32)) → w_R_undo  u_39 (fun r_41 u_42 => ((¬ r_41 = (5 : Int32)) → False) ∧ ((r_41 = (5 : Int32)) → w_R_undo  u_42 (fun r_44 u_45 => ((¬ r_44 = (4 : Int32)) → False) ∧ ((r_44 = (4 : Int32)) → w_R_undo  u_45 (fun r_47 u_48 => ((¬ r_47 = (3 : Int32)) → False) ∧ ((r_47 = (3 : Int32)) → w_R_undo  u_48 (fun r_50 u_51 => ((¬ r_50 = (2 : Int32)) → False) ∧ ((r_50 = (2 : Int32)) → w_R_undo  u_51 (fun r_53 u_54 => ((¬ r_53 = (1 : Int32)) → False) ∧ ((r_53 = (1 : Int32)) → w_R_undo  u_54 (fun r_56 u_57 => ((¬ r_56 = 0) → False) ∧ ((r_56 = 0) → w_R_account (1 : Int32) u_57 (fun r_59 u_60 => ((¬ r_59 = (9 : Int32)) → False) ∧ ((r_59 = (9 : Int32)) → w_R_undo  u_60 (fun r_62 u_63 => ((r_62 = (-1001 : Int32)) → w_R_restore  u_63 (fun r_65 u_66 => ((¬ r_65 = 0) → False) ∧ ((r_65 = 0) → w_R_account (0 : Int32) u_66 (fun r_68 u_69 => ((¬ r_68 = 0) → False) ∧ ((r_68 = 0) → w_R_account (3 : Int32) u_69 (fun r_71 u_72 => ((¬ r_71 = (1 : Int32)) → False) ∧ ((r_71 = (1 : Int32)) → w_R_undo  u_72 (fun r_74 u_75 => ((r_74 = (-1001 : Int32)) → Q) ∧ ((¬ r_74 = (-1001 : Int32)) → False))))))))) ∧ ((¬ r_62 = (-1001 : Int32)) → False))))))))))))))))))))))) ∧ ((¬ r_29 = (1 : Int32)) → False))))))))))))))))))))) ∧ ((¬ (16 : Int32) ≤ x2) → w_R_tread (x2 - x2 / (8 : Int32) * (8 : Int32)) (((x2 + (1 : Int32)) + (x2 / (8 : Int32))) - ((x2 + (1 : Int32)) + (x2 / (8 : Int32))) / (8 : Int32) * (8 : Int32)) u (fun r_77 u_78 => ((r_77 = x2) → ∀ x2_80, x2_80 = x2 + (1 : Int32) → wl_R_lawe_177 xs L Q n x2_80 u_78) ∧ ((¬ r_77 = x2) → False)))
set_option maxHeartbeats 4000000 in
set_option maxRecDepth 100000 in
theorem vl_R_lawe_177 {p : Program} {l : Launch} {e : Env} {s : State} {m : MethodId} {args : Array Value} {below : List Frame} {meth : Method} {c : Code} {g : GE} {W : MU × ((Nat → Int64) × (Nat → UInt64))} {Qz : State → Prop} {Q : Prop} {xs : Nat → Int32} {L : Nat} (hxs : g.2.2.2.2.2.1.2.2 = xs) (hLL : g.2.2.2.2.2.1.2.1 = L) (hstk : l.stackTraces = false) (C : zCx p l s m args meth c g RL cL_law 11) (hend : Q → ∀ (u : MU) (cz sz : Nat), cz + 300000 ≤ 600312 → sz + 1800000 ≤ 7292578 → WM p l e room_1 s m args below meth c g 11 cz sz Qz 458 [(0, .ref g.2.2.2.2.2.1.1)] [] (u, W)) : ∀ (n : Nat) (x2 : Int32) (u : MU) (cz sz : Nat), cz + (n * 1 + 300028 + 0) ≤ 600312 → sz + 6 * (n * 1 + 300028 + 0) ≤ 7292578 → wl_R_lawe_177 xs L Q n x2 u → WM p l e room_1 s m args below meth c g 11 cz sz Qz 177 [(0, .ref g.2.2.2.2.2.1.1), (1, .ref (g.2.2.1 0)), (2, .int x2)] [] (u, W) := by
  intro n
  induction n with
  | zero => intro _ _ _ _ _ _ h; exact h.elim
  | succ n ih =>
    intro x2 u cz sz hz hs h
    unfold wl_R_lawe_177 at h
    rw [Nat.succ_mul] at hz hs
    refine zm_iload_n C dL_law_177 rfl 2 rfl ?_
    refine zm_bipush (v := 16) C dL_law_178 (by decide) ?_
    refine zm_icmp_ge (tgt := 214) C dL_law_180 (by decide) (fun hc_1 => ?_) (fun hc_1 => ?_)
    · have h := h.1 hc_1
      refine zm_aload_n C dL_law_214 rfl 1 rfl ?_
      refine zm_iconst (v := 0) C dL_law_215 (by decide) ?_
      refine zm_iconst (v := 4) C dL_law_216 (by decide) ?_
      refine zm_ci (zr_SW (As := [.ref (g.2.2.1 0), .int (0 : Int32), .int (4 : Int32)]) (rest := []) C (c_L_tread l hstk _ u W (0 : Int32) (4 : Int32) h) wd_449 wd_450 wd_0 wd_451 hz_L_tread rfl rfl ⟨by decide, by decide⟩ ⟨(show cz + 1 ≤ 600312 by omega), (show sz + 6 ≤ 7292578 by omega)⟩ rfl rfl (Nat.le_of_ble_eq_true rfl) dL_law_217) (fun r_2 M1 hq => ?_)
      obtain ⟨u_3, rfl, h⟩ := hq
      refine zm_sipush (v := -1001) C dL_law_220 (by decide) ?_
      refine zm_icmp_ne (tgt := 323) C dL_law_223 (by decide) (fun hc_4 => ?_) (fun hc_4 => ?_)
      · have h := h.1 hc_4
        refine zm_iconst (v := 0) C dL_law_323 (by decide) ?_
        exact h.elim
      · have h := h.2 hc_4
        refine zm_aload_n C dL_law_226 rfl 1 rfl ?_
        refine zm_iconst (v := 2) C dL_law_227 (by decide) ?_
        refine zm_bipush (v := 16) C dL_law_228 (by decide) ?_
        refine zm_iconst (v := 0) C dL_law_230 (by decide) ?_
        refine zm_ci (zr_S (As := [.ref (g.2.2.1 0), .int (2 : Int32), .int (16 : Int32), .int (0 : Int32)]) (rest := []) C (c_L_is l hstk _ u_3 W (2 : Int32) (16 : Int32) (0 : Int32) h) wd_863 wd_864 wd_0 wd_865 hy_L_is rfl rfl ⟨by decide, by decide⟩ ⟨(show (cz + 1) + 3 ≤ 600312 by omega), (show (sz + 6) + 18 ≤ 7292578 by omega)⟩ rfl rfl (Nat.le_of_ble_eq_true rfl) dL_law_231) (fun r_5 M1 hq => ?_)
        obtain ⟨u_6, rfl, h⟩ := hq
        refine zm_if_eq (tgt := 323) C dL_law_234 (by decide) (fun hc_7 => ?_) (fun hc_7 => ?_)
        · have h := h.1 hc_7
          refine zm_iconst (v := 0) C dL_law_323 (by decide) ?_
          exact h.elim
        · have h := h.2 hc_7
          refine zm_aload_n C dL_law_237 rfl 1 rfl ?_
          refine zm_bipush (v := 9) C dL_law_238 (by decide) ?_
          refine zm_ci (zr_SW (As := [.ref (g.2.2.1 0), .int (9 : Int32)]) (rest := []) C (c_L_account l hstk _ u_6 W (9 : Int32) h) wd_823 wd_824 wd_0 wd_825 hz_L_account rfl rfl ⟨by decide, by decide⟩ ⟨(show (cz + 4) + 1 ≤ 600312 by omega), (show (sz + 24) + 6 ≤ 7292578 by omega)⟩ rfl rfl (Nat.le_of_ble_eq_true rfl) dL_law_240) (fun r_8 M1 hq => ?_)
          obtain ⟨u_9, rfl, h⟩ := hq
          refine zm_bipush (v := 8) C dL_law_243 (by decide) ?_
          refine zm_icmp_ne (tgt := 323) C dL_law_245 (by decide) (fun hc_10 => ?_) (fun hc_10 => ?_)
          · have h := h.1 hc_10
            refine zm_iconst (v := 0) C dL_law_323 (by decide) ?_
            exact h.elim
          · have h := h.2 hc_10
            refine zm_aload_n C dL_law_248 rfl 1 rfl ?_
            refine zm_iconst (v := 4) C dL_law_249 (by decide) ?_
            refine zm_ci (zr_SW (As := [.ref (g.2.2.1 0), .int (4 : Int32)]) (rest := []) C (c_L_account l hstk _ u_9 W (4 : Int32) h) wd_823 wd_824 wd_0 wd_825 hz_L_account rfl rfl ⟨by decide, by decide⟩ ⟨(show (cz + 5) + 1 ≤ 600312 by omega), (show (sz + 30) + 6 ≤ 7292578 by omega)⟩ rfl rfl (Nat.le_of_ble_eq_true rfl) dL_law_250) (fun r_11 M1 hq => ?_)
            obtain ⟨u_12, rfl, h⟩ := hq
            refine zm_sipush (v := 336) C dL_law_253 (by decide) ?_
            refine zm_icmp_ne (tgt := 323) C dL_law_256 (by decide) (fun hc_13 => ?_) (fun hc_13 => ?_)
            · have h := h.1 hc_13
              refine zm_iconst (v := 0) C dL_law_323 (by decide) ?_
              exact h.elim
            · have h := h.2 hc_13
              refine zm_aload_n C dL_law_259 rfl 1 rfl ?_
              refine zm_iconst (v := 0) C dL_law_260 (by decide) ?_
              refine zm_iconst (v := 0) C dL_law_261 (by decide) ?_
              refine zm_ci (zr_SW (As := [.ref (g.2.2.1 0), .int (0 : Int32), .int (0 : Int32)]) (rest := []) C (c_L_burrowOf l hstk _ u_12 W (0 : Int32) (0 : Int32) h) wd_515 wd_516 wd_0 wd_517 hz_L_burrowOf rfl rfl ⟨by decide, by decide⟩ ⟨(show (cz + 6) + 1 ≤ 600312 by omega), (show (sz + 36) + 6 ≤ 7292578 by omega)⟩ rfl rfl (Nat.le_of_ble_eq_true rfl) dL_law_262) (fun r_14 M1 hq => ?_)
              obtain ⟨u_15, rfl, h⟩ := hq
              refine zm_iconst (v := 4) C dL_law_265 (by decide) ?_
              refine zm_icmp_ne (tgt := 323) C dL_law_266 (by decide) (fun hc_16 => ?_) (fun hc_16 => ?_)
              · have h := h.1 hc_16
                refine zm_iconst (v := 0) C dL_law_323 (by decide) ?_
                exact h.elim
              · have h := h.2 hc_16
                refine zm_aload_n C dL_law_269 rfl 1 rfl ?_
                refine zm_bipush (v := 7) C dL_law_270 (by decide) ?_
                refine zm_iconst (v := 1) C dL_law_272 (by decide) ?_
                refine zm_ci (zr_SW (As := [.ref (g.2.2.1 0), .int (7 : Int32), .int (1 : Int32)]) (rest := []) C (c_L_burrowOf l hstk _ u_15 W (7 : Int32) (1 : Int32) h) wd_515 wd_516 wd_0 wd_517 hz_L_burrowOf rfl rfl ⟨by decide, by decide⟩ ⟨(show (cz + 7) + 1 ≤ 600312 by omega), (show (sz + 42) + 6 ≤ 7292578 by omega)⟩ rfl rfl (Nat.le_of_ble_eq_true rfl) dL_law_273) (fun r_17 M1 hq => ?_)
                obtain ⟨u_18, rfl, h⟩ := hq
                refine zm_if_ne (tgt := 323) C dL_law_276 (by decide) (fun hc_19 => ?_) (fun hc_19 => ?_)
                · have h := h.1 hc_19
                  refine zm_iconst (v := 0) C dL_law_323 (by decide) ?_
                  exact h.elim
                · have h := h.2 hc_19
                  refine zm_aload_n C dL_law_279 rfl 1 rfl ?_
                  refine zm_iconst (v := 0) C dL_law_280 (by decide) ?_
                  refine zm_iconst (v := 2) C dL_law_281 (by decide) ?_
                  refine zm_ci (zr_SW (As := [.ref (g.2.2.1 0), .int (0 : Int32), .int (2 : Int32)]) (rest := []) C (c_L_grow l hstk _ u_18 W (0 : Int32) (2 : Int32) h) wd_489 wd_490 wd_0 wd_491 hz_L_grow rfl rfl ⟨by decide, by decide⟩ ⟨(show (cz + 8) + 1 ≤ 600312 by omega), (show (sz + 48) + 6 ≤ 7292578 by omega)⟩ rfl rfl (Nat.le_of_ble_eq_true rfl) dL_law_282) (fun r_20 M1 hq => ?_)
                  obtain ⟨u_21, rfl, h⟩ := hq
                  refine zm_bipush (v := 15) C dL_law_285 (by decide) ?_
                  refine zm_icmp_ne (tgt := 323) C dL_law_287 (by decide) (fun hc_22 => ?_) (fun hc_22 => ?_)
                  · have h := h.1 hc_22
                    refine zm_iconst (v := 0) C dL_law_323 (by decide) ?_
                    exact h.elim
                  · have h := h.2 hc_22
                    refine zm_aload_n C dL_law_290 rfl 1 rfl ?_
                    refine zm_bipush (v := 8) C dL_law_291 (by decide) ?_
                    refine zm_iconst (v := 0) C dL_law_293 (by decide) ?_
                    refine zm_ci (zr_SW (As := [.ref (g.2.2.1 0), .int (8 : Int32), .int (0 : Int32)]) (rest := []) C (c_L_pathOf l hstk _ u_21 W (8 : Int32) (0 : Int32) h) wd_696 wd_697 wd_0 wd_698 hz_L_pathOf rfl rfl ⟨by decide, by decide⟩ ⟨(show (cz + 9) + 1 ≤ 600312 by omega), (show (sz + 54) + 6 ≤ 7292578 by omega)⟩ rfl rfl (Nat.le_of_ble_eq_true rfl) dL_law_294) (fun r_23 M1 hq => ?_)
                    obtain ⟨u_24, rfl, h⟩ := hq
                    refine zm_iconst (v := 1) C dL_law_297 (by decide) ?_
                    refine zm_icmp_ne (tgt := 323) C dL_law_298 (by decide) (fun hc_25 => ?_) (fun hc_25 => ?_)
                    · have h := h.1 hc_25
                      refine zm_iconst (v := 0) C dL_law_323 (by decide) ?_
                      exact h.elim
                    · have h := h.2 hc_25
                      refine zm_aload_n C dL_law_301 rfl 1 rfl ?_
                      refine zm_bipush (v := 8) C dL_law_302 (by decide) ?_
                      refine zm_iconst (v := 1) C dL_law_304 (by decide) ?_
                      refine zm_ci (zr_SW (As := [.ref (g.2.2.1 0), .int (8 : Int32), .int (1 : Int32)]) (rest := []) C (c_L_pathOf l hstk _ u_24 W (8 : Int32) (1 : Int32) h) wd_696 wd_697 wd_0 wd_698 hz_L_pathOf rfl rfl ⟨by decide, by decide⟩ ⟨(show (cz + 10) + 1 ≤ 600312 by omega), (show (sz + 60) + 6 ≤ 7292578 by omega)⟩ rfl rfl (Nat.le_of_ble_eq_true rfl) dL_law_305) (fun r_26 M1 hq => ?_)
                      obtain ⟨u_27, rfl, h⟩ := hq
                      refine zm_iconst (v := 3) C dL_law_308 (by decide) ?_
                      refine zm_icmp_ne (tgt := 323) C dL_law_309 (by decide) (fun hc_28 => ?_) (fun hc_28 => ?_)
                      · have h := h.1 hc_28
                        refine zm_iconst (v := 0) C dL_law_323 (by decide) ?_
                        exact h.elim
                      · have h := h.2 hc_28
                        refine zm_aload_n C dL_law_312 rfl 1 rfl ?_
                        refine zm_bipush (v := 14) C dL_law_313 (by decide) ?_
                        refine zm_iconst (v := 1) C dL_law_315 (by decide) ?_
                        refine zm_ci (zr_SW (As := [.ref (g.2.2.1 0), .int (14 : Int32), .int (1 : Int32)]) (rest := []) C (c_L_pathOf l hstk _ u_27 W (14 : Int32) (1 : Int32) h) wd_696 wd_697 wd_0 wd_698 hz_L_pathOf rfl rfl ⟨by decide, by decide⟩ ⟨(show (cz + 11) + 1 ≤ 600312 by omega), (show (sz + 66) + 6 ≤ 7292578 by omega)⟩ rfl rfl (Nat.le_of_ble_eq_true rfl) dL_law_316) (fun r_29 M1 hq => ?_)
                        obtain ⟨u_30, rfl, h⟩ := hq
                        refine zm_iconst (v := 1) C dL_law_319 (by decide) ?_
                        refine zm_icmp_eq (tgt := 325) C dL_law_320 (by decide) (fun hc_31 => ?_) (fun hc_31 => ?_)
                        · have h := h.1 hc_31
                          refine zm_aload_n C dL_law_325 rfl 1 rfl ?_
                          refine zm_ci (zr_SW (As := [.ref (g.2.2.1 0)]) (rest := []) C (c_L_undo l hstk _ u_30 W  h) wd_843 wd_844 wd_0 wd_845 hz_L_undo rfl rfl ⟨by decide, by decide⟩ ⟨(show (cz + 12) + 1 ≤ 600312 by omega), (show (sz + 72) + 6 ≤ 7292578 by omega)⟩ rfl rfl (Nat.le_of_ble_eq_true rfl) dL_law_326) (fun r_32 M1 hq => ?_)
                          obtain ⟨u_33, rfl, h⟩ := hq
                          refine zm_bipush (v := 7) C dL_law_329 (by decide) ?_
                          refine zm_icmp_ne (tgt := 420) C dL_law_331 (by decide) (fun hc_34 => ?_) (fun hc_34 => ?_)
                          · have h := h.1 hc_34
                            refine zm_iconst (v := 0) C dL_law_420 (by decide) ?_
                            exact h.elim
                          · have h := h.2 hc_34
                            refine zm_aload_n C dL_law_334 rfl 1 rfl ?_
                            refine zm_iconst (v := 1) C dL_law_335 (by decide) ?_
                            refine zm_ci (zr_SW (As := [.ref (g.2.2.1 0), .int (1 : Int32)]) (rest := []) C (c_L_account l hstk _ u_33 W (1 : Int32) h) wd_823 wd_824 wd_0 wd_825 hz_L_account rfl rfl ⟨by decide, by decide⟩ ⟨(show (cz + 13) + 1 ≤ 600312 by omega), (show (sz + 78) + 6 ≤ 7292578 by omega)⟩ rfl rfl (Nat.le_of_ble_eq_true rfl) dL_law_336) (fun r_35 M1 hq => ?_)
                            obtain ⟨u_36, rfl, h⟩ := hq
                            refine zm_bipush (v := 16) C dL_law_339 (by decide) ?_
                            refine zm_icmp_ne (tgt := 420) C dL_law_341 (by decide) (fun hc_37 => ?_) (fun hc_37 => ?_)
                            · have h := h.1 hc_37
                              refine zm_iconst (v := 0) C dL_law_420 (by decide) ?_
                              exact h.elim
                            · have h := h.2 hc_37
                              refine zm_aload_n C dL_law_344 rfl 1 rfl ?_
                              refine zm_ci (zr_SW (As := [.ref (g.2.2.1 0)]) (rest := []) C (c_L_undo l hstk _ u_36 W  h) wd_843 wd_844 wd_0 wd_845 hz_L_undo rfl rfl ⟨by decide, by decide⟩ ⟨(show (cz + 14) + 1 ≤ 600312 by omega), (show (sz + 84) + 6 ≤ 7292578 by omega)⟩ rfl rfl (Nat.le_of_ble_eq_true rfl) dL_law_345) (fun r_38 M1 hq => ?_)
                              obtain ⟨u_39, rfl, h⟩ := hq
                              refine zm_bipush (v := 6) C dL_law_348 (by decide) ?_
                              refine zm_icmp_ne (tgt := 420) C dL_law_350 (by decide) (fun hc_40 => ?_) (fun hc_40 => ?_)
                              · have h := h.1 hc_40
                                refine zm_iconst (v := 0) C dL_law_420 (by decide) ?_
                                exact h.elim
                              · have h := h.2 hc_40
                                refine zm_aload_n C dL_law_353 rfl 1 rfl ?_
                                refine zm_ci (zr_SW (As := [.ref (g.2.2.1 0)]) (rest := []) C (c_L_undo l hstk _ u_39 W  h) wd_843 wd_844 wd_0 wd_845 hz_L_undo rfl rfl ⟨by decide, by decide⟩ ⟨(show (cz + 15) + 1 ≤ 600312 by omega), (show (sz + 90) + 6 ≤ 7292578 by omega)⟩ rfl rfl (Nat.le_of_ble_eq_true rfl) dL_law_354) (fun r_41 M1 hq => ?_)
                                obtain ⟨u_42, rfl, h⟩ := hq
                                refine zm_iconst (v := 5) C dL_law_357 (by decide) ?_
                                refine zm_icmp_ne (tgt := 420) C dL_law_358 (by decide) (fun hc_43 => ?_) (fun hc_43 => ?_)
                                · have h := h.1 hc_43
                                  refine zm_iconst (v := 0) C dL_law_420 (by decide) ?_
                                  exact h.elim
                                · have h := h.2 hc_43
                                  refine zm_aload_n C dL_law_361 rfl 1 rfl ?_
                                  refine zm_ci (zr_SW (As := [.ref (g.2.2.1 0)]) (rest := []) C (c_L_undo l hstk _ u_42 W  h) wd_843 wd_844 wd_0 wd_845 hz_L_undo rfl rfl ⟨by decide, by decide⟩ ⟨(show (cz + 16) + 1 ≤ 600312 by omega), (show (sz + 96) + 6 ≤ 7292578 by omega)⟩ rfl rfl (Nat.le_of_ble_eq_true rfl) dL_law_362) (fun r_44 M1 hq => ?_)
                                  obtain ⟨u_45, rfl, h⟩ := hq
                                  refine zm_iconst (v := 4) C dL_law_365 (by decide) ?_
                                  refine zm_icmp_ne (tgt := 420) C dL_law_366 (by decide) (fun hc_46 => ?_) (fun hc_46 => ?_)
                                  · have h := h.1 hc_46
                                    refine zm_iconst (v := 0) C dL_law_420 (by decide) ?_
                                    exact h.elim
                                  · have h := h.2 hc_46
                                    refine zm_aload_n C dL_law_369 rfl 1 rfl ?_
                                    refine zm_ci (zr_SW (As := [.ref (g.2.2.1 0)]) (rest := []) C (c_L_undo l hstk _ u_45 W  h) wd_843 wd_844 wd_0 wd_845 hz_L_undo rfl rfl ⟨by decide, by decide⟩ ⟨(show (cz + 17) + 1 ≤ 600312 by omega), (show (sz + 102) + 6 ≤ 7292578 by omega)⟩ rfl rfl (Nat.le_of_ble_eq_true rfl) dL_law_370) (fun r_47 M1 hq => ?_)
                                    obtain ⟨u_48, rfl, h⟩ := hq
                                    refine zm_iconst (v := 3) C dL_law_373 (by decide) ?_
                                    refine zm_icmp_ne (tgt := 420) C dL_law_374 (by decide) (fun hc_49 => ?_) (fun hc_49 => ?_)
                                    · have h := h.1 hc_49
                                      refine zm_iconst (v := 0) C dL_law_420 (by decide) ?_
                                      exact h.elim
                                    · have h := h.2 hc_49
                                      refine zm_aload_n C dL_law_377 rfl 1 rfl ?_
                                      refine zm_ci (zr_SW (As := [.ref (g.2.2.1 0)]) (rest := []) C (c_L_undo l hstk _ u_48 W  h) wd_843 wd_844 wd_0 wd_845 hz_L_undo rfl rfl ⟨by decide, by decide⟩ ⟨(show (cz + 18) + 1 ≤ 600312 by omega), (show (sz + 108) + 6 ≤ 7292578 by omega)⟩ rfl rfl (Nat.le_of_ble_eq_true rfl) dL_law_378) (fun r_50 M1 hq => ?_)
                                      obtain ⟨u_51, rfl, h⟩ := hq
                                      refine zm_iconst (v := 2) C dL_law_381 (by decide) ?_
                                      refine zm_icmp_ne (tgt := 420) C dL_law_382 (by decide) (fun hc_52 => ?_) (fun hc_52 => ?_)
                                      · have h := h.1 hc_52
                                        refine zm_iconst (v := 0) C dL_law_420 (by decide) ?_
                                        exact h.elim
                                      · have h := h.2 hc_52
                                        refine zm_aload_n C dL_law_385 rfl 1 rfl ?_
                                        refine zm_ci (zr_SW (As := [.ref (g.2.2.1 0)]) (rest := []) C (c_L_undo l hstk _ u_51 W  h) wd_843 wd_844 wd_0 wd_845 hz_L_undo rfl rfl ⟨by decide, by decide⟩ ⟨(show (cz + 19) + 1 ≤ 600312 by omega), (show (sz + 114) + 6 ≤ 7292578 by omega)⟩ rfl rfl (Nat.le_of_ble_eq_true rfl) dL_law_386) (fun r_53 M1 hq => ?_)
                                        obtain ⟨u_54, rfl, h⟩ := hq
                                        refine zm_iconst (v := 1) C dL_law_389 (by decide) ?_
                                        refine zm_icmp_ne (tgt := 420) C dL_law_390 (by decide) (fun hc_55 => ?_) (fun hc_55 => ?_)
                                        · have h := h.1 hc_55
                                          refine zm_iconst (v := 0) C dL_law_420 (by decide) ?_
                                          exact h.elim
                                        · have h := h.2 hc_55
                                          refine zm_aload_n C dL_law_393 rfl 1 rfl ?_
                                          refine zm_ci (zr_SW (As := [.ref (g.2.2.1 0)]) (rest := []) C (c_L_undo l hstk _ u_54 W  h) wd_843 wd_844 wd_0 wd_845 hz_L_undo rfl rfl ⟨by decide, by decide⟩ ⟨(show (cz + 20) + 1 ≤ 600312 by omega), (show (sz + 120) + 6 ≤ 7292578 by omega)⟩ rfl rfl (Nat.le_of_ble_eq_true rfl) dL_law_394) (fun r_56 M1 hq => ?_)
                                          obtain ⟨u_57, rfl, h⟩ := hq
                                          refine zm_if_ne (tgt := 420) C dL_law_397 (by decide) (fun hc_58 => ?_) (fun hc_58 => ?_)
                                          · have h := h.1 hc_58
                                            refine zm_iconst (v := 0) C dL_law_420 (by decide) ?_
                                            exact h.elim
                                          · have h := h.2 hc_58
                                            refine zm_aload_n C dL_law_400 rfl 1 rfl ?_
                                            refine zm_iconst (v := 1) C dL_law_401 (by decide) ?_
                                            refine zm_ci (zr_SW (As := [.ref (g.2.2.1 0), .int (1 : Int32)]) (rest := []) C (c_L_account l hstk _ u_57 W (1 : Int32) h) wd_823 wd_824 wd_0 wd_825 hz_L_account rfl rfl ⟨by decide, by decide⟩ ⟨(show (cz + 21) + 1 ≤ 600312 by omega), (show (sz + 126) + 6 ≤ 7292578 by omega)⟩ rfl rfl (Nat.le_of_ble_eq_true rfl) dL_law_402) (fun r_59 M1 hq => ?_)
                                            obtain ⟨u_60, rfl, h⟩ := hq
                                            refine zm_bipush (v := 9) C dL_law_405 (by decide) ?_
                                            refine zm_icmp_ne (tgt := 420) C dL_law_407 (by decide) (fun hc_61 => ?_) (fun hc_61 => ?_)
                                            · have h := h.1 hc_61
                                              refine zm_iconst (v := 0) C dL_law_420 (by decide) ?_
                                              exact h.elim
                                            · have h := h.2 hc_61
                                              refine zm_aload_n C dL_law_410 rfl 1 rfl ?_
                                              refine zm_ci (zr_SW (As := [.ref (g.2.2.1 0)]) (rest := []) C (c_L_undo l hstk _ u_60 W  h) wd_843 wd_844 wd_0 wd_845 hz_L_undo rfl rfl ⟨by decide, by decide⟩ ⟨(show (cz + 22) + 1 ≤ 600312 by omega), (show (sz + 132) + 6 ≤ 7292578 by omega)⟩ rfl rfl (Nat.le_of_ble_eq_true rfl) dL_law_411) (fun r_62 M1 hq => ?_)
                                              obtain ⟨u_63, rfl, h⟩ := hq
                                              refine zm_sipush (v := -1001) C dL_law_414 (by decide) ?_
                                              refine zm_icmp_eq (tgt := 422) C dL_law_417 (by decide) (fun hc_64 => ?_) (fun hc_64 => ?_)
                                              · have h := h.1 hc_64
                                                refine zm_aload_n C dL_law_422 rfl 1 rfl ?_
                                                refine zm_ci (zr_SW (As := [.ref (g.2.2.1 0)]) (rest := []) C (c_L_restore l hstk _ u_63 W  h) wd_855 wd_856 wd_0 wd_857 hz_L_restore rfl rfl ⟨by decide, by decide⟩ ⟨(show (cz + 23) + 1 ≤ 600312 by omega), (show (sz + 138) + 6 ≤ 7292578 by omega)⟩ rfl rfl (Nat.le_of_ble_eq_true rfl) dL_law_423) (fun r_65 M1 hq => ?_)
                                                obtain ⟨u_66, rfl, h⟩ := hq
                                                refine zm_if_ne (tgt := 456) C dL_law_426 (by decide) (fun hc_67 => ?_) (fun hc_67 => ?_)
                                                · have h := h.1 hc_67
                                                  refine zm_iconst (v := 0) C dL_law_456 (by decide) ?_
                                                  exact h.elim
                                                · have h := h.2 hc_67
                                                  refine zm_aload_n C dL_law_429 rfl 1 rfl ?_
                                                  refine zm_iconst (v := 0) C dL_law_430 (by decide) ?_
                                                  refine zm_ci (zr_SW (As := [.ref (g.2.2.1 0), .int (0 : Int32)]) (rest := []) C (c_L_account l hstk _ u_66 W (0 : Int32) h) wd_823 wd_824 wd_0 wd_825 hz_L_account rfl rfl ⟨by decide, by decide⟩ ⟨(show (cz + 24) + 1 ≤ 600312 by omega), (show (sz + 144) + 6 ≤ 7292578 by omega)⟩ rfl rfl (Nat.le_of_ble_eq_true rfl) dL_law_431) (fun r_68 M1 hq => ?_)
                                                  obtain ⟨u_69, rfl, h⟩ := hq
                                                  refine zm_if_ne (tgt := 456) C dL_law_434 (by decide) (fun hc_70 => ?_) (fun hc_70 => ?_)
                                                  · have h := h.1 hc_70
                                                    refine zm_iconst (v := 0) C dL_law_456 (by decide) ?_
                                                    exact h.elim
                                                  · have h := h.2 hc_70
                                                    refine zm_aload_n C dL_law_437 rfl 1 rfl ?_
                                                    refine zm_iconst (v := 3) C dL_law_438 (by decide) ?_
                                                    refine zm_ci (zr_SW (As := [.ref (g.2.2.1 0), .int (3 : Int32)]) (rest := []) C (c_L_account l hstk _ u_69 W (3 : Int32) h) wd_823 wd_824 wd_0 wd_825 hz_L_account rfl rfl ⟨by decide, by decide⟩ ⟨(show (cz + 25) + 1 ≤ 600312 by omega), (show (sz + 150) + 6 ≤ 7292578 by omega)⟩ rfl rfl (Nat.le_of_ble_eq_true rfl) dL_law_439) (fun r_71 M1 hq => ?_)
                                                    obtain ⟨u_72, rfl, h⟩ := hq
                                                    refine zm_iconst (v := 1) C dL_law_442 (by decide) ?_
                                                    refine zm_icmp_ne (tgt := 456) C dL_law_443 (by decide) (fun hc_73 => ?_) (fun hc_73 => ?_)
                                                    · have h := h.1 hc_73
                                                      refine zm_iconst (v := 0) C dL_law_456 (by decide) ?_
                                                      exact h.elim
                                                    · have h := h.2 hc_73
                                                      refine zm_aload_n C dL_law_446 rfl 1 rfl ?_
                                                      refine zm_ci (zr_SW (As := [.ref (g.2.2.1 0)]) (rest := []) C (c_L_undo l hstk _ u_72 W  h) wd_843 wd_844 wd_0 wd_845 hz_L_undo rfl rfl ⟨by decide, by decide⟩ ⟨(show (cz + 26) + 1 ≤ 600312 by omega), (show (sz + 156) + 6 ≤ 7292578 by omega)⟩ rfl rfl (Nat.le_of_ble_eq_true rfl) dL_law_447) (fun r_74 M1 hq => ?_)
                                                      obtain ⟨u_75, rfl, h⟩ := hq
                                                      refine zm_sipush (v := -1001) C dL_law_450 (by decide) ?_
                                                      refine zm_icmp_eq (tgt := 458) C dL_law_453 (by decide) (fun hc_76 => ?_) (fun hc_76 => ?_)
                                                      · have h := h.1 hc_76
                                                        exact zm_sub [0] rfl (hend h _ _ _ (by omega) (by omega))
                                                      · have h := h.2 hc_76
                                                        refine zm_iconst (v := 0) C dL_law_456 (by decide) ?_
                                                        exact h.elim
                                              · have h := h.2 hc_64
                                                refine zm_iconst (v := 0) C dL_law_420 (by decide) ?_
                                                exact h.elim
                        · have h := h.2 hc_31
                          refine zm_iconst (v := 0) C dL_law_323 (by decide) ?_
                          exact h.elim
    · have h := h.2 hc_1
      refine zm_aload_n C dL_law_183 rfl 1 rfl ?_
      refine zm_iload_n C dL_law_184 rfl 2 rfl ?_
      refine zm_bipush (v := 8) C dL_law_185 (by decide) ?_
      refine zm_irem C dL_law_187 (by decide) ?_
      refine zm_iload_n C dL_law_188 rfl 2 rfl ?_
      refine zm_iconst (v := 1) C dL_law_189 (by decide) ?_
      refine zm_iadd C dL_law_190 ?_
      refine zm_iload_n C dL_law_191 rfl 2 rfl ?_
      refine zm_bipush (v := 8) C dL_law_192 (by decide) ?_
      refine zm_idiv C dL_law_194 (by decide) ?_
      refine zm_iadd C dL_law_195 ?_
      refine zm_bipush (v := 8) C dL_law_196 (by decide) ?_
      refine zm_irem C dL_law_198 (by decide) ?_
      refine zm_ci (zr_SW (As := [.ref (g.2.2.1 0), .int (x2 - x2 / (8 : Int32) * (8 : Int32)), .int (((x2 + (1 : Int32)) + (x2 / (8 : Int32))) - ((x2 + (1 : Int32)) + (x2 / (8 : Int32))) / (8 : Int32) * (8 : Int32))]) (rest := []) C (c_L_tread l hstk _ u W (x2 - x2 / (8 : Int32) * (8 : Int32)) (((x2 + (1 : Int32)) + (x2 / (8 : Int32))) - ((x2 + (1 : Int32)) + (x2 / (8 : Int32))) / (8 : Int32) * (8 : Int32)) h) wd_449 wd_450 wd_0 wd_451 hz_L_tread rfl rfl ⟨by decide, by decide⟩ ⟨(show cz + 1 ≤ 600312 by omega), (show sz + 6 ≤ 7292578 by omega)⟩ rfl rfl (Nat.le_of_ble_eq_true rfl) dL_law_199) (fun r_77 M1 hq => ?_)
      obtain ⟨u_78, rfl, h⟩ := hq
      refine zm_iload_n C dL_law_202 rfl 2 rfl ?_
      refine zm_icmp_eq (tgt := 208) C dL_law_203 (by decide) (fun hc_79 => ?_) (fun hc_79 => ?_)
      · have h := h.1 hc_79
        obtain ⟨x2_80, hx2_80⟩ : ∃ z, z = x2 + (1 : Int32) := ⟨_, rfl⟩
        have h := h x2_80 hx2_80
        refine zm_iinc (v := x2_80) (lv' := [(2, .int x2_80), (0, .ref g.2.2.2.2.2.1.1), (1, .ref (g.2.2.1 0))]) C dL_law_208 2 rfl (by rw [hx2_80]; rfl) (by decide) rfl ?_
        refine zm_goto (tgt := 177) C dL_law_211 (by decide) ?_
        exact zm_sub [1, 2, 0] rfl (ih _ _ _ _ (by omega) (by omega) h)
      · have h := h.2 hc_79
        refine zm_iconst (v := 0) C dL_law_206 (by decide) ?_
        exact h.elim
def wl_R_lawe_130 (xs : Nat → Int32) (L : Nat) (Q : Prop) : Nat → Int32 → (MU) → Prop
  | 0, _, _ => False
  | n + 1, x2, u => (((8 : Int32) ≤ x2) → w_R_dig  u (fun r_2 u_3 => ((¬ r_2 = (-1001 : Int32)) → False) ∧ ((r_2 = (-1001 : Int32)) → w_R_is (2 : Int32) (8 : Int32) (0 : Int32) u_3 (fun r_5 u_6 => ((¬ r_5 = 0) → ∃ nn, nn ≤ 17 ∧ wl_R_lawe_177 xs L Q nn (0 : Int32) u_6) ∧ ((r_5 = 0) → False))))) ∧ ((¬ (8 : Int32) ≤ x2) → w_R_dig  u (fun r_8 u_9 => ((r_8 = x2) → ∀ x2_11, x2_11 = x2 + (1 : Int32) → wl_R_lawe_130 xs L Q n x2_11 u_9) ∧ ((¬ r_8 = x2) → False)))
set_option maxHeartbeats 4000000 in
set_option maxRecDepth 100000 in
theorem vl_R_lawe_130 {p : Program} {l : Launch} {e : Env} {s : State} {m : MethodId} {args : Array Value} {below : List Frame} {meth : Method} {c : Code} {g : GE} {W : MU × ((Nat → Int64) × (Nat → UInt64))} {Qz : State → Prop} {Q : Prop} {xs : Nat → Int32} {L : Nat} (hxs : g.2.2.2.2.2.1.2.2 = xs) (hLL : g.2.2.2.2.2.1.2.1 = L) (hstk : l.stackTraces = false) (C : zCx p l s m args meth c g RL cL_law 11) (hend : Q → ∀ (u : MU) (cz sz : Nat), cz + 300000 ≤ 600312 → sz + 1800000 ≤ 7292578 → WM p l e room_1 s m args below meth c g 11 cz sz Qz 458 [(0, .ref g.2.2.2.2.2.1.1)] [] (u, W)) : ∀ (n : Nat) (x2 : Int32) (u : MU) (cz sz : Nat), cz + (n * 1 + 300050 + 0) ≤ 600312 → sz + 6 * (n * 1 + 300050 + 0) ≤ 7292578 → wl_R_lawe_130 xs L Q n x2 u → WM p l e room_1 s m args below meth c g 11 cz sz Qz 130 [(0, .ref g.2.2.2.2.2.1.1), (1, .ref (g.2.2.1 0)), (2, .int x2)] [] (u, W) := by
  intro n
  induction n with
  | zero => intro _ _ _ _ _ _ h; exact h.elim
  | succ n ih =>
    intro x2 u cz sz hz hs h
    unfold wl_R_lawe_130 at h
    rw [Nat.succ_mul] at hz hs
    refine zm_iload_n C dL_law_130 rfl 2 rfl ?_
    refine zm_bipush (v := 8) C dL_law_131 (by decide) ?_
    refine zm_icmp_ge (tgt := 152) C dL_law_133 (by decide) (fun hc_1 => ?_) (fun hc_1 => ?_)
    · have h := h.1 hc_1
      refine zm_aload_n C dL_law_152 rfl 1 rfl ?_
      refine zm_ci (zr_SW (As := [.ref (g.2.2.1 0)]) (rest := []) C (c_L_dig l hstk _ u W  h) wd_335 wd_336 wd_0 wd_337 hz_L_dig rfl rfl ⟨by decide, by decide⟩ ⟨(show cz + 1 ≤ 600312 by omega), (show sz + 6 ≤ 7292578 by omega)⟩ rfl rfl (Nat.le_of_ble_eq_true rfl) dL_law_153) (fun r_2 M1 hq => ?_)
      obtain ⟨u_3, rfl, h⟩ := hq
      refine zm_sipush (v := -1001) C dL_law_156 (by decide) ?_
      refine zm_icmp_ne (tgt := 173) C dL_law_159 (by decide) (fun hc_4 => ?_) (fun hc_4 => ?_)
      · have h := h.1 hc_4
        refine zm_iconst (v := 0) C dL_law_173 (by decide) ?_
        exact h.elim
      · have h := h.2 hc_4
        refine zm_aload_n C dL_law_162 rfl 1 rfl ?_
        refine zm_iconst (v := 2) C dL_law_163 (by decide) ?_
        refine zm_bipush (v := 8) C dL_law_164 (by decide) ?_
        refine zm_iconst (v := 0) C dL_law_166 (by decide) ?_
        refine zm_ci (zr_S (As := [.ref (g.2.2.1 0), .int (2 : Int32), .int (8 : Int32), .int (0 : Int32)]) (rest := []) C (c_L_is l hstk _ u_3 W (2 : Int32) (8 : Int32) (0 : Int32) h) wd_863 wd_864 wd_0 wd_865 hy_L_is rfl rfl ⟨by decide, by decide⟩ ⟨(show (cz + 1) + 3 ≤ 600312 by omega), (show (sz + 6) + 18 ≤ 7292578 by omega)⟩ rfl rfl (Nat.le_of_ble_eq_true rfl) dL_law_167) (fun r_5 M1 hq => ?_)
        obtain ⟨u_6, rfl, h⟩ := hq
        refine zm_if_ne (tgt := 175) C dL_law_170 (by decide) (fun hc_7 => ?_) (fun hc_7 => ?_)
        · have h := h.1 hc_7
          refine zm_iconst (v := 0) C dL_law_175 (by decide) ?_
          refine zm_istore_n (lv' := [(2, .int (0 : Int32)), (0, .ref g.2.2.2.2.2.1.1), (1, .ref (g.2.2.1 0))]) C dL_law_176 rfl (by decide) rfl ?_
          obtain ⟨nn, hnn, h⟩ := h
          exact zm_sub [1, 2, 0] rfl (vl_R_lawe_177 hxs hLL hstk C hend  nn _ _ _ _ (by omega) (by omega) h)
        · have h := h.2 hc_7
          refine zm_iconst (v := 0) C dL_law_173 (by decide) ?_
          exact h.elim
    · have h := h.2 hc_1
      refine zm_aload_n C dL_law_136 rfl 1 rfl ?_
      refine zm_ci (zr_SW (As := [.ref (g.2.2.1 0)]) (rest := []) C (c_L_dig l hstk _ u W  h) wd_335 wd_336 wd_0 wd_337 hz_L_dig rfl rfl ⟨by decide, by decide⟩ ⟨(show cz + 1 ≤ 600312 by omega), (show sz + 6 ≤ 7292578 by omega)⟩ rfl rfl (Nat.le_of_ble_eq_true rfl) dL_law_137) (fun r_8 M1 hq => ?_)
      obtain ⟨u_9, rfl, h⟩ := hq
      refine zm_iload_n C dL_law_140 rfl 2 rfl ?_
      refine zm_icmp_eq (tgt := 146) C dL_law_141 (by decide) (fun hc_10 => ?_) (fun hc_10 => ?_)
      · have h := h.1 hc_10
        obtain ⟨x2_11, hx2_11⟩ : ∃ z, z = x2 + (1 : Int32) := ⟨_, rfl⟩
        have h := h x2_11 hx2_11
        refine zm_iinc (v := x2_11) (lv' := [(2, .int x2_11), (0, .ref g.2.2.2.2.2.1.1), (1, .ref (g.2.2.1 0))]) C dL_law_146 2 rfl (by rw [hx2_11]; rfl) (by decide) rfl ?_
        refine zm_goto (tgt := 130) C dL_law_149 (by decide) ?_
        exact zm_sub [1, 2, 0] rfl (ih _ _ _ _ (by omega) (by omega) h)
      · have h := h.2 hc_10
        refine zm_iconst (v := 0) C dL_law_144 (by decide) ?_
        exact h.elim
def wl_R_lawe_48 (xs : Nat → Int32) (L : Nat) (Q : Prop) : Nat → Int32 → (MU) → Prop
  | 0, _, _ => False
  | n + 1, x2, u => (((60 : Int32) ≤ x2) → w_R_append (100 : Int32) u (fun r_2 u_3 => ((¬ r_2 = (-1001 : Int32)) → False) ∧ ((r_2 = (-1001 : Int32)) → w_R_account (10 : Int32) u_3 (fun r_5 u_6 => ((¬ r_5 = (60 : Int32)) → False) ∧ ((r_5 = (60 : Int32)) → w_R_commands  u_6 (fun r_8 u_9 => ((¬ r_8 = (-1001 : Int32)) → False) ∧ ((r_8 = (-1001 : Int32)) → w_X9_faultPosition u_9  (fun r_11 => ((¬ r_11 = 0) → False) ∧ ((r_11 = 0) → w_R_account (10 : Int32) u_9 (fun r_14 u_15 => ((r_14 = 0) → ∃ nn, nn ≤ 9 ∧ wl_R_lawe_130 xs L Q nn (0 : Int32) u_15) ∧ ((¬ r_14 = 0) → False))))))))))) ∧ ((¬ (60 : Int32) ≤ x2) → w_R_append ((((65 : Int32) + x2).toUInt32 % 65536).toInt32) u (fun r_17 u_18 => ((r_17 = (x2 + (1 : Int32))) → ∀ x2_20, x2_20 = x2 + (1 : Int32) → wl_R_lawe_48 xs L Q n x2_20 u_18) ∧ ((¬ r_17 = (x2 + (1 : Int32))) → False)))
set_option maxHeartbeats 4000000 in
set_option maxRecDepth 100000 in
theorem vl_R_lawe_48 {p : Program} {l : Launch} {e : Env} {s : State} {m : MethodId} {args : Array Value} {below : List Frame} {meth : Method} {c : Code} {g : GE} {W : MU × ((Nat → Int64) × (Nat → UInt64))} {Qz : State → Prop} {Q : Prop} {xs : Nat → Int32} {L : Nat} (hxs : g.2.2.2.2.2.1.2.2 = xs) (hLL : g.2.2.2.2.2.1.2.1 = L) (hstk : l.stackTraces = false) (C : zCx p l s m args meth c g RL cL_law 11) (hend : Q → ∀ (u : MU) (cz sz : Nat), cz + 300000 ≤ 600312 → sz + 1800000 ≤ 7292578 → WM p l e room_1 s m args below meth c g 11 cz sz Qz 458 [(0, .ref g.2.2.2.2.2.1.1)] [] (u, W)) : ∀ (n : Nat) (x2 : Int32) (u : MU) (cz sz : Nat), cz + (n * 1 + 300064 + 0) ≤ 600312 → sz + 6 * (n * 1 + 300064 + 0) ≤ 7292578 → wl_R_lawe_48 xs L Q n x2 u → WM p l e room_1 s m args below meth c g 11 cz sz Qz 48 [(0, .ref g.2.2.2.2.2.1.1), (1, .ref (g.2.2.1 0)), (2, .int x2)] [] (u, W) := by
  intro n
  induction n with
  | zero => intro _ _ _ _ _ _ h; exact h.elim
  | succ n ih =>
    intro x2 u cz sz hz hs h
    unfold wl_R_lawe_48 at h
    rw [Nat.succ_mul] at hz hs
    refine zm_iload_n C dL_law_48 rfl 2 rfl ?_
    refine zm_bipush (v := 60) C dL_law_49 (by decide) ?_
    refine zm_icmp_ge (tgt := 77) C dL_law_51 (by decide) (fun hc_1 => ?_) (fun hc_1 => ?_)
    · have h := h.1 hc_1
      refine zm_aload_n C dL_law_77 rfl 1 rfl ?_
      refine zm_bipush (v := 100) C dL_law_78 (by decide) ?_
      refine zm_ci (zr_SW (As := [.ref (g.2.2.1 0), .int (100 : Int32)]) (rest := []) C (c_L_append l hstk _ u W (100 : Int32) h) wd_704 wd_705 wd_0 wd_706 hz_L_append rfl rfl ⟨by decide, by decide⟩ ⟨(show cz + 1 ≤ 600312 by omega), (show sz + 6 ≤ 7292578 by omega)⟩ rfl rfl (Nat.le_of_ble_eq_true rfl) dL_law_80) (fun r_2 M1 hq => ?_)
      obtain ⟨u_3, rfl, h⟩ := hq
      refine zm_sipush (v := -1001) C dL_law_83 (by decide) ?_
      refine zm_icmp_ne (tgt := 126) C dL_law_86 (by decide) (fun hc_4 => ?_) (fun hc_4 => ?_)
      · have h := h.1 hc_4
        refine zm_iconst (v := 0) C dL_law_126 (by decide) ?_
        exact h.elim
      · have h := h.2 hc_4
        refine zm_aload_n C dL_law_89 rfl 1 rfl ?_
        refine zm_bipush (v := 10) C dL_law_90 (by decide) ?_
        refine zm_ci (zr_SW (As := [.ref (g.2.2.1 0), .int (10 : Int32)]) (rest := []) C (c_L_account l hstk _ u_3 W (10 : Int32) h) wd_823 wd_824 wd_0 wd_825 hz_L_account rfl rfl ⟨by decide, by decide⟩ ⟨(show (cz + 1) + 1 ≤ 600312 by omega), (show (sz + 6) + 6 ≤ 7292578 by omega)⟩ rfl rfl (Nat.le_of_ble_eq_true rfl) dL_law_92) (fun r_5 M1 hq => ?_)
        obtain ⟨u_6, rfl, h⟩ := hq
        refine zm_bipush (v := 60) C dL_law_95 (by decide) ?_
        refine zm_icmp_ne (tgt := 126) C dL_law_97 (by decide) (fun hc_7 => ?_) (fun hc_7 => ?_)
        · have h := h.1 hc_7
          refine zm_iconst (v := 0) C dL_law_126 (by decide) ?_
          exact h.elim
        · have h := h.2 hc_7
          refine zm_aload_n C dL_law_100 rfl 1 rfl ?_
          refine zm_ci (zr_SW (As := [.ref (g.2.2.1 0)]) (rest := []) C (c_L_commands l hstk _ u_6 W  h) wd_732 wd_733 wd_0 wd_734 hz_L_commands rfl rfl ⟨by decide, by decide⟩ ⟨(show (cz + 2) + 1 ≤ 600312 by omega), (show (sz + 12) + 6 ≤ 7292578 by omega)⟩ rfl rfl (Nat.le_of_ble_eq_true rfl) dL_law_101) (fun r_8 M1 hq => ?_)
          obtain ⟨u_9, rfl, h⟩ := hq
          refine zm_sipush (v := -1001) C dL_law_104 (by decide) ?_
          refine zm_icmp_ne (tgt := 126) C dL_law_107 (by decide) (fun hc_10 => ?_) (fun hc_10 => ?_)
          · have h := h.1 hc_10
            refine zm_iconst (v := 0) C dL_law_126 (by decide) ?_
            exact h.elim
          · have h := h.2 hc_10
            refine zm_aload_n C dL_law_110 rfl 1 rfl ?_
            refine zm_ci (zr_V (As := []) (rest := []) C (c_X9_faultPosition l _ u_9 W  h) wd_302 wd_303 wd_304 wd_1 wd_305 hy_X9_faultPosition rfl rfl ⟨by decide, by decide⟩ ⟨(show (cz + 3) + 0 ≤ 600312 by omega), (show (sz + 18) + 0 ≤ 7292578 by omega)⟩ (ci := 9) (by decide) (zCell_k kd_0) rfl rfl rfl rfl (Nat.le_of_ble_eq_true rfl) dL_law_111) (fun r_11 M1 hq => ?_)
            obtain ⟨rfl, h⟩ := hq
            refine zm_if_ne (tgt := 126) C dL_law_114 (by decide) (fun hc_13 => ?_) (fun hc_13 => ?_)
            · have h := h.1 hc_13
              refine zm_iconst (v := 0) C dL_law_126 (by decide) ?_
              exact h.elim
            · have h := h.2 hc_13
              refine zm_aload_n C dL_law_117 rfl 1 rfl ?_
              refine zm_bipush (v := 10) C dL_law_118 (by decide) ?_
              refine zm_ci (zr_SW (As := [.ref (g.2.2.1 0), .int (10 : Int32)]) (rest := []) C (c_L_account l hstk _ u_9 W (10 : Int32) h) wd_823 wd_824 wd_0 wd_825 hz_L_account rfl rfl ⟨by decide, by decide⟩ ⟨(show (cz + 3) + 1 ≤ 600312 by omega), (show (sz + 18) + 6 ≤ 7292578 by omega)⟩ rfl rfl (Nat.le_of_ble_eq_true rfl) dL_law_120) (fun r_14 M1 hq => ?_)
              obtain ⟨u_15, rfl, h⟩ := hq
              refine zm_if_eq (tgt := 128) C dL_law_123 (by decide) (fun hc_16 => ?_) (fun hc_16 => ?_)
              · have h := h.1 hc_16
                refine zm_iconst (v := 0) C dL_law_128 (by decide) ?_
                refine zm_istore_n (lv' := [(2, .int (0 : Int32)), (0, .ref g.2.2.2.2.2.1.1), (1, .ref (g.2.2.1 0))]) C dL_law_129 rfl (by decide) rfl ?_
                obtain ⟨nn, hnn, h⟩ := h
                exact zm_sub [1, 2, 0] rfl (vl_R_lawe_130 hxs hLL hstk C hend  nn _ _ _ _ (by omega) (by omega) h)
              · have h := h.2 hc_16
                refine zm_iconst (v := 0) C dL_law_126 (by decide) ?_
                exact h.elim
    · have h := h.2 hc_1
      refine zm_aload_n C dL_law_54 rfl 1 rfl ?_
      refine zm_bipush (v := 65) C dL_law_55 (by decide) ?_
      refine zm_iload_n C dL_law_57 rfl 2 rfl ?_
      refine zm_iadd C dL_law_58 ?_
      refine zm_i2c C dL_law_59 ?_
      refine zm_ci (zr_SW (As := [.ref (g.2.2.1 0), .int (((65 : Int32) + x2).toUInt32 % 65536).toInt32]) (rest := []) C (c_L_append l hstk _ u W ((((65 : Int32) + x2).toUInt32 % 65536).toInt32) h) wd_704 wd_705 wd_0 wd_706 hz_L_append rfl rfl ⟨by decide, by decide⟩ ⟨(show cz + 1 ≤ 600312 by omega), (show sz + 6 ≤ 7292578 by omega)⟩ rfl rfl (Nat.le_of_ble_eq_true rfl) dL_law_60) (fun r_17 M1 hq => ?_)
      obtain ⟨u_18, rfl, h⟩ := hq
      refine zm_iload_n C dL_law_63 rfl 2 rfl ?_
      refine zm_iconst (v := 1) C dL_law_64 (by decide) ?_
      refine zm_iadd C dL_law_65 ?_
      refine zm_icmp_eq (tgt := 71) C dL_law_66 (by decide) (fun hc_19 => ?_) (fun hc_19 => ?_)
      · have h := h.1 hc_19
        obtain ⟨x2_20, hx2_20⟩ : ∃ z, z = x2 + (1 : Int32) := ⟨_, rfl⟩
        have h := h x2_20 hx2_20
        refine zm_iinc (v := x2_20) (lv' := [(2, .int x2_20), (0, .ref g.2.2.2.2.2.1.1), (1, .ref (g.2.2.1 0))]) C dL_law_71 2 rfl (by rw [hx2_20]; rfl) (by decide) rfl ?_
        refine zm_goto (tgt := 48) C dL_law_74 (by decide) ?_
        exact zm_sub [1, 2, 0] rfl (ih _ _ _ _ (by omega) (by omega) h)
      · have h := h.2 hc_19
        refine zm_iconst (v := 0) C dL_law_69 (by decide) ?_
        exact h.elim
def wb_R_lawe_8 (xs : Nat → Int32) (L : Nat) (Q : Prop) (u : MU) : Prop := w_R_undo  u (fun r_1 u_2 => ((¬ r_1 = (-1001 : Int32)) → False) ∧ ((r_1 = (-1001 : Int32)) → w_R_restore  u_2 (fun r_4 u_5 => ((¬ r_4 = (-1001 : Int32)) → False) ∧ ((r_4 = (-1001 : Int32)) → w_X9_save  u_5 (fun r_7 u_8 => ((¬ r_7 = 0) → False) ∧ ((r_7 = 0) → w_R_flock (2 : Int32) u_8 (fun r_10 u_11 => ((r_10 = (1 : Int32)) → ∃ nn, nn ≤ 61 ∧ wl_R_lawe_48 xs L Q nn (0 : Int32) u_11) ∧ ((¬ r_10 = (1 : Int32)) → False))))))))
set_option maxHeartbeats 4000000 in
set_option maxRecDepth 100000 in
theorem vb_R_lawe_8 {p : Program} {l : Launch} {e : Env} {s : State} {m : MethodId} {args : Array Value} {below : List Frame} {meth : Method} {c : Code} {g : GE} {W : MU × ((Nat → Int64) × (Nat → UInt64))} {Qz : State → Prop} {Q : Prop} {xs : Nat → Int32} {L : Nat} (hxs : g.2.2.2.2.2.1.2.2 = xs) (hLL : g.2.2.2.2.2.1.2.1 = L) (hstk : l.stackTraces = false) (C : zCx p l s m args meth c g RL cL_law 11) (hend : Q → ∀ (u : MU) (cz sz : Nat), cz + 300000 ≤ 600312 → sz + 1800000 ≤ 7292578 → WM p l e room_1 s m args below meth c g 11 cz sz Qz 458 [(0, .ref g.2.2.2.2.2.1.1)] [] (u, W)) (u : MU) (cz sz : Nat) (hz : cz + 300128 + 0 ≤ 600312) (hs : sz + 6 * (300128 + 0) ≤ 7292578) (h : wb_R_lawe_8 xs L Q u) : WM p l e room_1 s m args below meth c g 11 cz sz Qz 8 [(0, .ref g.2.2.2.2.2.1.1), (1, .ref (g.2.2.1 0))] [] (u, W) := by
  unfold wb_R_lawe_8 at h
  refine zm_aload_n C dL_law_8 rfl 1 rfl ?_
  refine zm_ci (zr_SW (As := [.ref (g.2.2.1 0)]) (rest := []) C (c_L_undo l hstk _ u W  h) wd_843 wd_844 wd_0 wd_845 hz_L_undo rfl rfl ⟨by decide, by decide⟩ ⟨(show cz + 1 ≤ 600312 by omega), (show sz + 6 ≤ 7292578 by omega)⟩ rfl rfl (Nat.le_of_ble_eq_true rfl) dL_law_9) (fun r_1 M1 hq => ?_)
  obtain ⟨u_2, rfl, h⟩ := hq
  refine zm_sipush (v := -1001) C dL_law_12 (by decide) ?_
  refine zm_icmp_ne (tgt := 44) C dL_law_15 (by decide) (fun hc_3 => ?_) (fun hc_3 => ?_)
  · have h := h.1 hc_3
    refine zm_iconst (v := 0) C dL_law_44 (by decide) ?_
    exact h.elim
  · have h := h.2 hc_3
    refine zm_aload_n C dL_law_18 rfl 1 rfl ?_
    refine zm_ci (zr_SW (As := [.ref (g.2.2.1 0)]) (rest := []) C (c_L_restore l hstk _ u_2 W  h) wd_855 wd_856 wd_0 wd_857 hz_L_restore rfl rfl ⟨by decide, by decide⟩ ⟨(show (cz + 1) + 1 ≤ 600312 by omega), (show (sz + 6) + 6 ≤ 7292578 by omega)⟩ rfl rfl (Nat.le_of_ble_eq_true rfl) dL_law_19) (fun r_4 M1 hq => ?_)
    obtain ⟨u_5, rfl, h⟩ := hq
    refine zm_sipush (v := -1001) C dL_law_22 (by decide) ?_
    refine zm_icmp_ne (tgt := 44) C dL_law_25 (by decide) (fun hc_6 => ?_) (fun hc_6 => ?_)
    · have h := h.1 hc_6
      refine zm_iconst (v := 0) C dL_law_44 (by decide) ?_
      exact h.elim
    · have h := h.2 hc_6
      refine zm_aload_n C dL_law_28 rfl 1 rfl ?_
      refine zm_ci (zr_V (As := []) (rest := []) C (c_X9_save l _ u_5 W  h) wd_306 wd_307 wd_308 wd_1 wd_309 hy_X9_save rfl rfl ⟨by decide, by decide⟩ ⟨(show (cz + 2) + 0 ≤ 600312 by omega), (show (sz + 12) + 0 ≤ 7292578 by omega)⟩ (ci := 9) (by decide) (zCell_k kd_0) rfl rfl rfl rfl (Nat.le_of_ble_eq_true rfl) dL_law_29) (fun r_7 M1 hq => ?_)
      obtain ⟨u_8, rfl, h⟩ := hq
      refine zm_if_ne (tgt := 44) C dL_law_32 (by decide) (fun hc_9 => ?_) (fun hc_9 => ?_)
      · have h := h.1 hc_9
        refine zm_iconst (v := 0) C dL_law_44 (by decide) ?_
        exact h.elim
      · have h := h.2 hc_9
        refine zm_aload_n C dL_law_35 rfl 1 rfl ?_
        refine zm_iconst (v := 2) C dL_law_36 (by decide) ?_
        refine zm_ci (zr_SW (As := [.ref (g.2.2.1 0), .int (2 : Int32)]) (rest := []) C (c_L_flock l hstk _ u_8 W (2 : Int32) h) wd_504 wd_505 wd_0 wd_506 hz_L_flock rfl rfl ⟨by decide, by decide⟩ ⟨(show (cz + 2) + 1 ≤ 600312 by omega), (show (sz + 12) + 6 ≤ 7292578 by omega)⟩ rfl rfl (Nat.le_of_ble_eq_true rfl) dL_law_37) (fun r_10 M1 hq => ?_)
        obtain ⟨u_11, rfl, h⟩ := hq
        refine zm_iconst (v := 1) C dL_law_40 (by decide) ?_
        refine zm_icmp_eq (tgt := 46) C dL_law_41 (by decide) (fun hc_12 => ?_) (fun hc_12 => ?_)
        · have h := h.1 hc_12
          refine zm_iconst (v := 0) C dL_law_46 (by decide) ?_
          refine zm_istore_n (lv' := [(2, .int (0 : Int32)), (0, .ref g.2.2.2.2.2.1.1), (1, .ref (g.2.2.1 0))]) C dL_law_47 rfl (by decide) rfl ?_
          obtain ⟨nn, hnn, h⟩ := h
          exact zm_sub [1, 2, 0] rfl (vl_R_lawe_48 hxs hLL hstk C hend  nn _ _ _ _ (by omega) (by omega) h)
        · have h := h.2 hc_12
          refine zm_iconst (v := 0) C dL_law_44 (by decide) ?_
          exact h.elim
