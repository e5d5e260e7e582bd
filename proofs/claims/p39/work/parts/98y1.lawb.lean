/-! THE LAW: its own long row, its two halves -/
section ZLW
variable {p : Program} {l : Launch} {e : Env} {R : Room} {s : State} {m : MethodId} {args : Array Value} {below : List Frame} {meth : Method} {c : Code} {g : GE} {own : String} {cc : ByteArray} {nL cells slots : Nat} {Q : State → Prop} {pc : Nat} {lv : List (Nat × Value)} {st : List Value} {M : Mem}
/-- the world with the law's row of longs, its contents f -/
def gW (g : GE) (aw : Nat) (f : Nat → Int64) : GE := zGx g [(aw, .inl (g.2.1 2, 9, .inr (.inl f)))]
theorem gW_at {aw : Nat} {f : Nat → Int64} : (zW (gW g aw f) M)[117 + 0]? = some (aw, .inl (g.2.1 2, 9, .inr (.inl f))) := zW_atx g M _ 0
theorem zw_lald {aw : Nat} {f : Nat → Int64} (C : zCx p l s m args meth c (gW g aw f) own cc nL) {i : Int32} (hin : vp_in i 9) (d : decode cc pc = .ok (.laload, 1)) (k : WM p l e R s m args below meth c (gW g aw f) nL cells slots Q (pc + 1) lv (.long (f i.toNatClampNeg) :: st) M) : WM p l e R s m args below meth c (gW g aw f) nL cells slots Q pc lv (.int i :: .ref aw :: st) M :=
  fun H locs ls hl hp hs => va_lald C.hx C.hb C.hK hp.1 (117 + 0) 2 (gW_at (g := g) (M := M) (aw := aw) (f := f)) rfl hin d (k H locs ls hl hp hs)
theorem zw_last {aw : Nat} {f : Nat → Int64} (C : zCx p l s m args meth c (gW g aw f) own cc nL) {i : Int32} {x : Int64} (hin : vp_in i 9) (d : decode cc pc = .ok (.lastore, 1)) (k : ∀ f', f' = vp_updL f i.toNatClampNeg x → WM p l e R s m args below meth c (gW g aw f') nL cells slots Q (pc + 1) lv st M) : WM p l e R s m args below meth c (gW g aw f) nL cells slots Q pc lv (.long x :: .int i :: .ref aw :: st) M := by
  intro H locs ls hl hp hs
  refine va_last C.hx C.hb C.hK hp.1 (C.hdist M) hs (117 + 0) 2 (gW_at (g := g) (M := M) (aw := aw) (f := f)) rfl hin d (fun H1 locs1 hP1 hD1 hS1 => ?_)
  have e : (zW (gW g aw f) M).set (117 + 0) (aw, .inl (g.2.1 2, 9, .inr (.inl (vp_updL f i.toNatClampNeg x)))) = zW (gW g aw (vp_updL f i.toNatClampNeg x)) M := zW_setx g M _ 0 _
  have hold := zOld C hs hS1
  refine k _ rfl H1 locs1 ls hl ⟨?_, vx_Zq.kept hp.2.1 hold, vx_Zq.kept hp.2.2.1 hold, hp.2.2.2.kept hold⟩ hS1
  rw [← e]
  exact hP1
theorem zw_newL (C : zCx p l s m args meth c g own cc nL) (hx0 : g.2.2.2.2.1 = []) (w1 : Cond.arrayClass .long ∈ TB) (hcells : cells + 1 ≤ R.cells) (hslots : slots + 9 ≤ R.slots) (d : decode cc pc = .ok (.newarray .long, 2)) (k : ∀ aw : Nat, (∀ f, zCx p l s m args meth c (gW g aw f) own cc nL) → WM p l e R s m args below meth c (gW g aw (fun _ => 0)) nL (cells + 1) (slots + 9) Q (pc + 2) lv (.ref aw :: st) M) : WM p l e R s m args below meth c g nL cells slots Q pc lv (.int 9 :: st) M := by
  intro H locs ls hl hp hs
  refine va_newaK (atype := .long) (N := 9) C.hx C.hb (C.ht _ w1) rfl d rfl (by decide) (by decide) (by decide) hcells hslots rfl fun H1 cA e1 z1 o1 hAr hNm => ?_
  have hcA : cA = g.2.1 2 := by
    have h1 := (C.hK.2 2 _ rfl).2
    exact Option.some.inj (hNm.symm.trans h1)
  have hk : ∀ (k : Nat) (x : Nat × va_E), (zW g M)[k]? = some x → H1[x.1]? = H[x.1]? := fun k x hx => o1 x.1 ((hp.1 k x hx).lt)
  have hlt : ∀ q : Nat, q < s.heap.size → q < H.size := fun q hq => Nat.lt_of_lt_of_le hq hs.1
  have hS1 : va_S (zA g) s.heap H1 locs := ⟨by rw [z1]; exact Nat.le_succ_of_le hs.1, fun x h1 h2 => (o1 x (hlt x h1)).trans (hs.2.1 x h1 h2), hs.2.2⟩
  have e : zW g M ++ [(H.size, .inl (g.2.1 2, 9, .inr (.inl (fun _ => 0))))] = zW (gW g H.size (fun _ => 0)) M := by
    rw [zW_app, hx0]; rfl
  have hD : va_D (zA g) (zW (gW g H.size (fun _ => 0)) M) := by
    rw [← e]
    exact (C.hdist M).push hp.1 rfl (C.hA _ hs.1)
  have hP : va_P g.1 zCl (zW (gW g H.size (fun _ => 0)) M) H1 := by
    rw [← e]
    refine (hp.1.kept hk).app (fun k x hx => ?_)
    have hz : k < 1 := (List.getElem?_eq_some_iff.mp hx).1
    rw [show k = 0 by omega] at hx
    cases hx
    show H1[H.size]? = some (vp_cell _ _)
    rw [← hcA]
    exact e1
  have hDf : ∀ f, zDist (gW g H.size f) := fun f => zDist_of (g := gW g H.size f) (M := M) (by
    have e2 : ∀ f, zW (gW g H.size f) M = zW g M ++ [(H.size, .inl (g.2.1 2, 9, .inr (.inl f)))] := fun f => by rw [zW_app, hx0]; rfl
    rw [e2]
    exact (C.hdist M).push hp.1 rfl (C.hA _ hs.1))
  have hold := zOld C hs hS1
  exact k H.size (fun f => zCxX C (hDf f)) H1 locs ls hl ⟨hP, vx_Zq.kept hp.2.1 hold, vx_Zq.kept hp.2.2.1 hold, hp.2.2.2.kept hold⟩ hS1
end ZLW
theorem wd_843 : (Jvm.Cond.methodLink "FoxBurrowsLaw" (290 : Nat) ({ cls := "FoxBurrowsLaw", name := "undo", desc := "(LFoxBurrows;)I" } : Jvm.MethodName)) ∈ TB := zTB 843 (by decide +kernel) (by decide +kernel)
theorem wd_844 : (Jvm.Cond.static ({ cls := "FoxBurrowsLaw", name := "undo", desc := "(LFoxBurrows;)I" } : Jvm.MethodName)) ∈ TB := zTB 844 (by decide +kernel) (by decide +kernel)
theorem wd_845 : (Jvm.Cond.codeWith ({ cls := "FoxBurrowsLaw", name := "undo", desc := "(LFoxBurrows;)I" } : Jvm.MethodName) method_35_code (2 : Nat) (Option.some Jvm.ClassFile.FieldType.int) [((0 : Nat), (4 : Nat), (5 : Nat), (101 : Nat))]) ∈ TB := zTB 845 (by decide +kernel) (by decide +kernel)
theorem wd_855 : (Jvm.Cond.methodLink "FoxBurrowsLaw" (292 : Nat) ({ cls := "FoxBurrowsLaw", name := "restore", desc := "(LFoxBurrows;)I" } : Jvm.MethodName)) ∈ TB := zTB 855 (by decide +kernel) (by decide +kernel)
theorem wd_856 : (Jvm.Cond.static ({ cls := "FoxBurrowsLaw", name := "restore", desc := "(LFoxBurrows;)I" } : Jvm.MethodName)) ∈ TB := zTB 856 (by decide +kernel) (by decide +kernel)
theorem wd_857 : (Jvm.Cond.codeWith ({ cls := "FoxBurrowsLaw", name := "restore", desc := "(LFoxBurrows;)I" } : Jvm.MethodName) method_36_code (2 : Nat) (Option.some Jvm.ClassFile.FieldType.int) [((0 : Nat), (4 : Nat), (5 : Nat), (101 : Nat))]) ∈ TB := zTB 857 (by decide +kernel) (by decide +kernel)
theorem wd_1094 : (Jvm.Cond.methodLink "FoxBurrowsLaw" (305 : Nat) ({ cls := "FoxBurrowsLaw", name := "changes", desc := "(LFoxBurrows;I)Z" } : Jvm.MethodName)) ∈ TB := zTB 1094 (by decide +kernel) (by decide +kernel)
theorem wd_1095 : (Jvm.Cond.static ({ cls := "FoxBurrowsLaw", name := "changes", desc := "(LFoxBurrows;I)Z" } : Jvm.MethodName)) ∈ TB := zTB 1095 (by decide +kernel) (by decide +kernel)
theorem wd_1096 : (Jvm.Cond.code ({ cls := "FoxBurrowsLaw", name := "changes", desc := "(LFoxBurrows;I)Z" } : Jvm.MethodName) method_42_code (4 : Nat) (Option.some Jvm.ClassFile.FieldType.boolean)) ∈ TB := zTB 1096 (by decide +kernel) (by decide +kernel)
theorem hz_L_changes : (yL_changes.cls ≠ "java/lang/invoke/MethodHandle" ∧ yL_changes.cls ≠ "java/lang/invoke/VarHandle" ∧ (parseMethodDescriptor yL_changes.desc).map (fun d => d.parameters.length) = some 2) := ⟨by decide +kernel, by decide +kernel, by decide +kernel⟩
theorem hy_L_changes : yL_changes.cls = RL ∧ (yL_changes.cls ≠ "java/lang/invoke/MethodHandle" ∧ yL_changes.cls ≠ "java/lang/invoke/VarHandle" ∧ (parseMethodDescriptor yL_changes.desc).map (fun d => d.parameters.length) = some 2) := ⟨rfl, hz_L_changes⟩
theorem hz_L_restore : (yL_restore.cls ≠ "java/lang/invoke/MethodHandle" ∧ yL_restore.cls ≠ "java/lang/invoke/VarHandle" ∧ (parseMethodDescriptor yL_restore.desc).map (fun d => d.parameters.length) = some 1) := ⟨by decide +kernel, by decide +kernel, by decide +kernel⟩
theorem hy_L_restore : yL_restore.cls = RL ∧ (yL_restore.cls ≠ "java/lang/invoke/MethodHandle" ∧ yL_restore.cls ≠ "java/lang/invoke/VarHandle" ∧ (parseMethodDescriptor yL_restore.desc).map (fun d => d.parameters.length) = some 1) := ⟨rfl, hz_L_restore⟩
theorem hz_L_undo : (yL_undo.cls ≠ "java/lang/invoke/MethodHandle" ∧ yL_undo.cls ≠ "java/lang/invoke/VarHandle" ∧ (parseMethodDescriptor yL_undo.desc).map (fun d => d.parameters.length) = some 1) := ⟨by decide +kernel, by decide +kernel, by decide +kernel⟩
theorem hy_L_undo : yL_undo.cls = RL ∧ (yL_undo.cls ≠ "java/lang/invoke/MethodHandle" ∧ yL_undo.cls ≠ "java/lang/invoke/VarHandle" ∧ (parseMethodDescriptor yL_undo.desc).map (fun d => d.parameters.length) = some 1) := ⟨rfl, hz_L_undo⟩
def wl_R_lawb_608 (xs : Nat → Int32) (L : Nat) (Q : Prop) : Nat → Int64 → Int32 → Int32 → Int32 → (MU) → (Nat → Int64) → Prop
  | 0, _, _, _, _, _, _ => False
  | n + 1, x3, x5, x7, x8, u, f => ((x7 < x8) → w_R_restore  u (fun r_2 u_3 => ((¬ r_2 = x5) → False) ∧ ((r_2 = x5) → w_R_undo  u_3 (fun r_5 u_6 => ((¬ r_5 = (-1001 : Int32)) → False) ∧ ((r_5 = (-1001 : Int32)) → w_R_asks  u_6 (fun r_8 u_9 => ((¬ (lg_cmp r_8 x3) = 0) → False) ∧ (((lg_cmp r_8 x3) = 0) → w_R_restore  u_9 (fun r_11 u_12 => ((¬ r_11 = x5) → False) ∧ ((r_11 = x5) → w_R_asks  u_12 (fun r_14 u_15 => ((¬ (lg_cmp r_14 x3) = 0) → False) ∧ (((lg_cmp r_14 x3) = 0) → Q))))))))))) ∧ ((¬ x7 < x8) → w_R_undo  u (fun r_17 u_18 => ((r_17 < (x7 - x8)) → False) ∧ ((¬ r_17 < (x7 - x8)) → ((((8 : Int32) - x8) < r_17) → False) ∧ ((¬ ((8 : Int32) - x8) < r_17) → w_R_asks  u_18 (fun r_21 u_22 => vp_in (x7 - x8) 9 ∧ ((((lg_cmp r_21 (f ((x7 - x8)).toNatClampNeg)) = 0) → ∀ x8_25, x8_25 = x8 + (1 : Int32) → wl_R_lawb_608 xs L Q n x3 x5 x7 x8_25 u_22 f) ∧ ((¬ (lg_cmp r_21 (f ((x7 - x8)).toNatClampNeg)) = 0) → False)))))))
set_option maxHeartbeats 4000000 in
set_option maxRecDepth 100000 in
theorem vl_R_lawb_608 {p : Program} {l : Launch} {e : Env} {s : State} {m : MethodId} {args : Array Value} {below : List Frame} {meth : Method} {c : Code} {g : GE} {W : MU × ((Nat → Int64) × (Nat → UInt64))} {Qz : State → Prop} {Q : Prop} {xs : Nat → Int32} {L : Nat} (hxs : g.2.2.2.2.2.1.2.2 = xs) (hLL : g.2.2.2.2.2.1.2.1 = L) (hstk : l.stackTraces = false) {aw : Nat} (hC : ∀ f, zCx p l s m args meth c (gW g aw f) RL cL_law 11) (hend : Q → ∀ (u : MU) (f : Nat → Int64), WM p l e room_1 s m args below meth c (gW g aw f) 11 600312 7292578 Qz 716 [] [.int 1] (u, W)) : ∀ (n : Nat) (x3 : Int64) (x5 : Int32) (x7 : Int32) (x8 : Int32) (u : MU) (f : Nat → Int64) (cz sz : Nat), cz + (2065 + n * 688 + 0) ≤ 600312 → sz + 6 * (2065 + n * 688 + 0) ≤ 7292578 → wl_R_lawb_608 xs L Q n x3 x5 x7 x8 u f → WM p l e room_1 s m args below meth c (gW g aw f) 11 cz sz Qz 608 [(2, .ref (g.2.2.1 0)), (3, .long x3), (5, .int x5), (6, .ref aw), (7, .int x7), (8, .int x8)] [] (u, W) := by
  intro n
  induction n with
  | zero => intro _ _ _ _ _ _ _ _ _ _ h; exact h.elim
  | succ n ih =>
    intro x3 x5 x7 x8 u f cz sz hz hs h
    unfold wl_R_lawb_608 at h
    refine zm_iload (hC _) dL_law_608 5 rfl ?_
    refine zm_iload (hC _) dL_law_610 4 rfl ?_
    refine zm_icmp_gt (tgt := 665) (hC _) dL_law_612 (by decide) (fun hc_1 => ?_) (fun hc_1 => ?_)
    · have h := h.1 hc_1
      refine zm_aload_n (hC _) dL_law_665 rfl 0 rfl ?_
      refine zm_ci (zr_SW (As := [.ref (g.2.2.1 0)]) (rest := []) (hC _) (c_L_restore l hstk _ u W  h) wd_855 wd_856 wd_0 wd_857 hz_L_restore rfl rfl ⟨by decide, by decide⟩ ⟨(show cz + 1 ≤ 600312 by omega), (show sz + 6 ≤ 7292578 by omega)⟩ rfl rfl (Nat.le_of_ble_eq_true rfl) dL_law_666) (fun r_2 M1 hq => ?_)
      obtain ⟨u_3, rfl, h⟩ := hq
      refine zm_iload (hC _) dL_law_669 2 rfl ?_
      refine zm_icmp_ne (tgt := 715) (hC _) dL_law_671 (by decide) (fun hc_4 => ?_) (fun hc_4 => ?_)
      · have h := h.1 hc_4
        refine zm_iconst (v := 0) (hC _) dL_law_715 (by decide) ?_
        exact h.elim
      · have h := h.2 hc_4
        refine zm_aload_n (hC _) dL_law_674 rfl 0 rfl ?_
        refine zm_ci (zr_SW (As := [.ref (g.2.2.1 0)]) (rest := []) (hC _) (c_L_undo l hstk _ u_3 W  h) wd_843 wd_844 wd_0 wd_845 hz_L_undo rfl rfl ⟨by decide, by decide⟩ ⟨(show (cz + 1) + 1 ≤ 600312 by omega), (show (sz + 6) + 6 ≤ 7292578 by omega)⟩ rfl rfl (Nat.le_of_ble_eq_true rfl) dL_law_675) (fun r_5 M1 hq => ?_)
        obtain ⟨u_6, rfl, h⟩ := hq
        refine zm_sipush (v := -1001) (hC _) dL_law_678 (by decide) ?_
        refine zm_icmp_ne (tgt := 715) (hC _) dL_law_681 (by decide) (fun hc_7 => ?_) (fun hc_7 => ?_)
        · have h := h.1 hc_7
          refine zm_iconst (v := 0) (hC _) dL_law_715 (by decide) ?_
          exact h.elim
        · have h := h.2 hc_7
          refine zm_aload_n (hC _) dL_law_684 rfl 0 rfl ?_
          refine zm_cl (zr_S (As := [.ref (g.2.2.1 0)]) (rest := []) (hC _) (c_L_asks l hstk _ u_6 W  h) wd_904 wd_905 wd_0 wd_906 hy_L_asks rfl rfl ⟨by decide, by decide⟩ ⟨(show (cz + 2) + 687 ≤ 600312 by omega), (show (sz + 12) + 4122 ≤ 7292578 by omega)⟩ rfl rfl (Nat.le_of_ble_eq_true rfl) dL_law_685) (fun r_8 M1 hq => ?_)
          obtain ⟨u_9, rfl, h⟩ := hq
          refine zm_lload_n (hC _) dL_law_688 rfl 1 rfl ?_
          refine zm_lcmp (hC _) dL_law_689 ?_
          refine zm_if_ne (tgt := 715) (hC _) dL_law_690 (by decide) (fun hc_10 => ?_) (fun hc_10 => ?_)
          · have h := h.1 hc_10
            refine zm_iconst (v := 0) (hC _) dL_law_715 (by decide) ?_
            exact h.elim
          · have h := h.2 hc_10
            refine zm_aload_n (hC _) dL_law_693 rfl 0 rfl ?_
            refine zm_ci (zr_SW (As := [.ref (g.2.2.1 0)]) (rest := []) (hC _) (c_L_restore l hstk _ u_9 W  h) wd_855 wd_856 wd_0 wd_857 hz_L_restore rfl rfl ⟨by decide, by decide⟩ ⟨(show (cz + 689) + 1 ≤ 600312 by omega), (show (sz + 4134) + 6 ≤ 7292578 by omega)⟩ rfl rfl (Nat.le_of_ble_eq_true rfl) dL_law_694) (fun r_11 M1 hq => ?_)
            obtain ⟨u_12, rfl, h⟩ := hq
            refine zm_iload (hC _) dL_law_697 2 rfl ?_
            refine zm_icmp_ne (tgt := 715) (hC _) dL_law_699 (by decide) (fun hc_13 => ?_) (fun hc_13 => ?_)
            · have h := h.1 hc_13
              refine zm_iconst (v := 0) (hC _) dL_law_715 (by decide) ?_
              exact h.elim
            · have h := h.2 hc_13
              refine zm_aload_n (hC _) dL_law_702 rfl 0 rfl ?_
              refine zm_cl (zr_S (As := [.ref (g.2.2.1 0)]) (rest := []) (hC _) (c_L_asks l hstk _ u_12 W  h) wd_904 wd_905 wd_0 wd_906 hy_L_asks rfl rfl ⟨by decide, by decide⟩ ⟨(show (cz + 690) + 687 ≤ 600312 by omega), (show (sz + 4140) + 4122 ≤ 7292578 by omega)⟩ rfl rfl (Nat.le_of_ble_eq_true rfl) dL_law_703) (fun r_14 M1 hq => ?_)
              obtain ⟨u_15, rfl, h⟩ := hq
              refine zm_lload_n (hC _) dL_law_706 rfl 1 rfl ?_
              refine zm_lcmp (hC _) dL_law_707 ?_
              refine zm_if_ne (tgt := 715) (hC _) dL_law_708 (by decide) (fun hc_16 => ?_) (fun hc_16 => ?_)
              · have h := h.1 hc_16
                refine zm_iconst (v := 0) (hC _) dL_law_715 (by decide) ?_
                exact h.elim
              · have h := h.2 hc_16
                refine zm_iconst (v := 1) (hC _) dL_law_711 (by decide) ?_
                refine zm_goto (tgt := 716) (hC _) dL_law_712 (by decide) ?_
                refine zm_sub [] (lv' := []) rfl ?_
                exact zm_widen (by omega) (by omega) (hend h _ _)
    · have h := h.2 hc_1
      refine zm_aload_n (hC _) dL_law_615 rfl 0 rfl ?_
      refine zm_ci (zr_SW (As := [.ref (g.2.2.1 0)]) (rest := []) (hC _) (c_L_undo l hstk _ u W  h) wd_843 wd_844 wd_0 wd_845 hz_L_undo rfl rfl ⟨by decide, by decide⟩ ⟨(show cz + 1 ≤ 600312 by omega), (show sz + 6 ≤ 7292578 by omega)⟩ rfl rfl (Nat.le_of_ble_eq_true rfl) dL_law_616) (fun r_17 M1 hq => ?_)
      obtain ⟨u_18, rfl, h⟩ := hq
      refine zm_istore (lv' := [(9, .int r_17), (2, .ref (g.2.2.1 0)), (3, .long x3), (5, .int x5), (6, .ref aw), (7, .int x7), (8, .int x8)]) (hC _) dL_law_619 (by decide) rfl ?_
      refine zm_iload (hC _) dL_law_621 0 rfl ?_
      refine zm_iload (hC _) dL_law_623 5 rfl ?_
      refine zm_iload (hC _) dL_law_625 6 rfl ?_
      refine zm_isub (hC _) dL_law_627 ?_
      refine zm_icmp_lt (tgt := 657) (hC _) dL_law_628 (by decide) (fun hc_19 => ?_) (fun hc_19 => ?_)
      · have h := h.1 hc_19
        refine zm_iconst (v := 0) (hC _) dL_law_657 (by decide) ?_
        exact h.elim
      · have h := h.2 hc_19
        refine zm_iload (hC _) dL_law_631 0 rfl ?_
        refine zm_bipush (v := 8) (hC _) dL_law_633 (by decide) ?_
        refine zm_iload (hC _) dL_law_635 6 rfl ?_
        refine zm_isub (hC _) dL_law_637 ?_
        refine zm_icmp_gt (tgt := 657) (hC _) dL_law_638 (by decide) (fun hc_20 => ?_) (fun hc_20 => ?_)
        · have h := h.1 hc_20
          refine zm_iconst (v := 0) (hC _) dL_law_657 (by decide) ?_
          exact h.elim
        · have h := h.2 hc_20
          refine zm_aload_n (hC _) dL_law_641 rfl 1 rfl ?_
          refine zm_cl (zr_S (As := [.ref (g.2.2.1 0)]) (rest := []) (hC _) (c_L_asks l hstk _ u_18 W  h) wd_904 wd_905 wd_0 wd_906 hy_L_asks rfl rfl ⟨by decide, by decide⟩ ⟨(show (cz + 1) + 687 ≤ 600312 by omega), (show (sz + 6) + 4122 ≤ 7292578 by omega)⟩ rfl rfl (Nat.le_of_ble_eq_true rfl) dL_law_642) (fun r_21 M1 hq => ?_)
          obtain ⟨u_22, rfl, h⟩ := hq
          refine zm_aload (hC _) dL_law_645 4 rfl ?_
          refine zm_iload (hC _) dL_law_647 5 rfl ?_
          refine zm_iload (hC _) dL_law_649 6 rfl ?_
          refine zm_isub (hC _) dL_law_651 ?_
          obtain ⟨hg_23, h⟩ := h
          refine zw_lald (hC _) hg_23 dL_law_652 ?_
          refine zm_lcmp (hC _) dL_law_653 ?_
          refine zm_if_eq (tgt := 659) (hC _) dL_law_654 (by decide) (fun hc_24 => ?_) (fun hc_24 => ?_)
          · have h := h.1 hc_24
            obtain ⟨x8_25, hx8_25⟩ : ∃ z, z = x8 + (1 : Int32) := ⟨_, rfl⟩
            have h := h x8_25 hx8_25
            refine zm_iinc (v := x8_25) (lv' := [(8, .int x8_25), (9, .int r_17), (2, .ref (g.2.2.1 0)), (3, .long x3), (5, .int x5), (6, .ref aw), (7, .int x7)]) (hC _) dL_law_659 6 rfl (by rw [hx8_25]; rfl) (by decide) rfl ?_
            refine zm_goto (tgt := 608) (hC _) dL_law_662 (by decide) ?_
            exact zm_sub [2, 3, 4, 5, 6, 0] rfl (ih _ _ _ _ _ _ _ _ (by omega) (by omega) h)
          · have h := h.2 hc_24
            refine zm_iconst (v := 0) (hC _) dL_law_657 (by decide) ?_
            exact h.elim
def wb_R_lawb_599 (xs : Nat → Int32) (L : Nat) (L538 : Int64 → Int32 → Int32 → Int32 → (MU) → (Nat → Int64) → Prop) (Q : Prop) (x3 : Int64) (x5 : Int32) (x7 : Int32) (x8 : Int32) (u : MU) (f : Nat → Int64) : Prop := ∀ x8_1, x8_1 = x8 + (1 : Int32) → L538 x3 x5 x7 x8_1 u f
set_option maxHeartbeats 4000000 in
set_option maxRecDepth 100000 in
theorem vb_R_lawb_599 {p : Program} {l : Launch} {e : Env} {s : State} {m : MethodId} {args : Array Value} {below : List Frame} {meth : Method} {c : Code} {g : GE} {W : MU × ((Nat → Int64) × (Nat → UInt64))} {Qz : State → Prop} {Q : Prop} {xs : Nat → Int32} {L : Nat} (hxs : g.2.2.2.2.2.1.2.2 = xs) (hLL : g.2.2.2.2.2.1.2.1 = L) (hstk : l.stackTraces = false) {aw : Nat} (hC : ∀ f, zCx p l s m args meth c (gW g aw f) RL cL_law 11) (hend : Q → ∀ (u : MU) (f : Nat → Int64), WM p l e room_1 s m args below meth c (gW g aw f) 11 600312 7292578 Qz 716 [] [.int 1] (u, W)) {O538 : Nat} (hO538 : 9704 + 0 ≤ O538) {L538 : Int64 → Int32 → Int32 → Int32 → (MU) → (Nat → Int64) → Prop} (hL538 : ∀ (x3 : Int64) (x5 : Int32) (x7 : Int32) (x8 : Int32) (u : MU) (f : Nat → Int64) (cz sz : Nat), cz + O538 ≤ 600312 → sz + 6 * O538 ≤ 7292578 → L538 x3 x5 x7 x8 u f → WM p l e room_1 s m args below meth c (gW g aw f) 11 cz sz Qz 538 [(0, .ref g.2.2.2.2.2.1.1), (2, .ref (g.2.2.1 0)), (3, .long x3), (5, .int x5), (6, .ref aw), (7, .int x7), (8, .int x8)] [] (u, W)) (x3 : Int64) (x5 : Int32) (x7 : Int32) (x8 : Int32) (u : MU) (f : Nat → Int64) (cz sz : Nat) (hz : cz + 0 + O538 ≤ 600312) (hs : sz + 6 * (0 + O538) ≤ 7292578) (h : wb_R_lawb_599 xs L L538 Q x3 x5 x7 x8 u f) : WM p l e room_1 s m args below meth c (gW g aw f) 11 cz sz Qz 599 [(0, .ref g.2.2.2.2.2.1.1), (2, .ref (g.2.2.1 0)), (3, .long x3), (5, .int x5), (6, .ref aw), (7, .int x7), (8, .int x8)] [] (u, W) := by
  unfold wb_R_lawb_599 at h
  obtain ⟨x8_1, hx8_1⟩ : ∃ z, z = x8 + (1 : Int32) := ⟨_, rfl⟩
  have h := h x8_1 hx8_1
  refine zm_iinc (v := x8_1) (lv' := [(8, .int x8_1), (0, .ref g.2.2.2.2.2.1.1), (2, .ref (g.2.2.1 0)), (3, .long x3), (5, .int x5), (6, .ref aw), (7, .int x7)]) (hC _) dL_law_599 6 rfl (by rw [hx8_1]; rfl) (by decide) rfl ?_
  refine zm_goto (tgt := 538) (hC _) dL_law_602 (by decide) ?_
  exact zm_sub [1, 2, 3, 4, 5, 6, 0] rfl (hL538 _ _ _ _ _ _ _ _ (by omega) (by omega) h)
def wl_R_lawb_538 (xs : Nat → Int32) (L : Nat) (Q : Prop) : Nat → Int64 → Int32 → Int32 → Int32 → (MU) → (Nat → Int64) → Prop
  | 0, _, _, _, _, _, _ => False
  | n + 1, x3, x5, x7, x8, u, f => (((8 : Int32) ≤ x8) → ∃ nn, nn ≤ 9 ∧ wl_R_lawb_608 xs L Q nn x3 x5 x7 (1 : Int32) u f) ∧ ((¬ (8 : Int32) ≤ x8) → w_R_asks  u (fun r_2 u_3 => w_R_at xs L ((20 : Int32) + x8) (fun r_4 => w_R_changes (r_4 ^^^ (x8 * (977 : Int32))) u_3 (fun r_6 u_7 => ((r_6 = 0) → w_R_asks  u_7 (fun r_9 u_10 => (((lg_cmp r_9 r_2) = 0) → wb_R_lawb_599 xs L (fun x3' x5' x7' x8' u' f' => wl_R_lawb_538 xs L Q n x3' x5' x7' x8' u' f') Q x3 x5 x7 x8 u_10 f) ∧ ((¬ (lg_cmp r_9 r_2) = 0) → False))) ∧ ((¬ r_6 = 0) → ∀ x7_12, x7_12 = x7 + (1 : Int32) → vp_in x7 9 ∧ (∀ f_14, f_14 = vp_updL f (x7).toNatClampNeg r_2 → wb_R_lawb_599 xs L (fun x3' x5' x7' x8' u' f' => wl_R_lawb_538 xs L Q n x3' x5' x7' x8' u' f') Q x3 x5 x7_12 x8 u_7 f_14))))))
set_option maxHeartbeats 4000000 in
set_option maxRecDepth 100000 in
theorem vl_R_lawb_538 {p : Program} {l : Launch} {e : Env} {s : State} {m : MethodId} {args : Array Value} {below : List Frame} {meth : Method} {c : Code} {g : GE} {W : MU × ((Nat → Int64) × (Nat → UInt64))} {Qz : State → Prop} {Q : Prop} {xs : Nat → Int32} {L : Nat} (hxs : g.2.2.2.2.2.1.2.2 = xs) (hLL : g.2.2.2.2.2.1.2.1 = L) (hstk : l.stackTraces = false) {aw : Nat} (hC : ∀ f, zCx p l s m args meth c (gW g aw f) RL cL_law 11) (hend : Q → ∀ (u : MU) (f : Nat → Int64), WM p l e room_1 s m args below meth c (gW g aw f) 11 600312 7292578 Qz 716 [] [.int 1] (u, W)) : ∀ (n : Nat) (x3 : Int64) (x5 : Int32) (x7 : Int32) (x8 : Int32) (u : MU) (f : Nat → Int64) (cz sz : Nat), cz + (9704 + n * 1447 + 0) ≤ 600312 → sz + 6 * (9704 + n * 1447 + 0) ≤ 7292578 → wl_R_lawb_538 xs L Q n x3 x5 x7 x8 u f → WM p l e room_1 s m args below meth c (gW g aw f) 11 cz sz Qz 538 [(0, .ref g.2.2.2.2.2.1.1), (2, .ref (g.2.2.1 0)), (3, .long x3), (5, .int x5), (6, .ref aw), (7, .int x7), (8, .int x8)] [] (u, W) := by
  intro n
  induction n with
  | zero => intro _ _ _ _ _ _ _ _ _ _ h; exact h.elim
  | succ n ih =>
    intro x3 x5 x7 x8 u f cz sz hz hs h
    unfold wl_R_lawb_538 at h
    refine zm_iload (hC _) dL_law_538 6 rfl ?_
    refine zm_bipush (v := 8) (hC _) dL_law_540 (by decide) ?_
    refine zm_icmp_ge (tgt := 605) (hC _) dL_law_542 (by decide) (fun hc_1 => ?_) (fun hc_1 => ?_)
    · have h := h.1 hc_1
      refine zm_iconst (v := 1) (hC _) dL_law_605 (by decide) ?_
      refine zm_istore (lv' := [(8, .int (1 : Int32)), (0, .ref g.2.2.2.2.2.1.1), (2, .ref (g.2.2.1 0)), (3, .long x3), (5, .int x5), (6, .ref aw), (7, .int x7)]) (hC _) dL_law_606 (by decide) rfl ?_
      obtain ⟨nn, hnn, h⟩ := h
      exact zm_sub [2, 3, 4, 5, 6, 0] rfl (vl_R_lawb_608 hxs hLL hstk hC hend  nn _ _ _ _ _ _ _ _ (by omega) (by omega) h)
    · have h := h.2 hc_1
      refine zm_aload_n (hC _) dL_law_545 rfl 1 rfl ?_
      refine zm_cl (zr_S (As := [.ref (g.2.2.1 0)]) (rest := []) (hC _) (c_L_asks l hstk _ u W  h) wd_904 wd_905 wd_0 wd_906 hy_L_asks rfl rfl ⟨by decide, by decide⟩ ⟨(show cz + 687 ≤ 600312 by omega), (show sz + 4122 ≤ 7292578 by omega)⟩ rfl rfl (Nat.le_of_ble_eq_true rfl) dL_law_546) (fun r_2 M1 hq => ?_)
      obtain ⟨u_3, rfl, h⟩ := hq
      refine zm_lstore (lv' := [(9, .long r_2), (0, .ref g.2.2.2.2.2.1.1), (2, .ref (g.2.2.1 0)), (3, .long x3), (5, .int x5), (6, .ref aw), (7, .int x7), (8, .int x8)]) (hC _) dL_law_549 (by decide) rfl ?_
      refine zm_aload_n (hC _) dL_law_551 rfl 2 rfl ?_
      refine zm_aload_n (hC _) dL_law_552 rfl 1 rfl ?_
      refine zm_bipush (v := 20) (hC _) dL_law_553 (by decide) ?_
      refine zm_iload (hC _) dL_law_555 7 rfl ?_
      refine zm_iadd (hC _) dL_law_557 ?_
      refine zm_ci (zr_S (As := [.ref g.2.2.2.2.2.1.1, .int ((20 : Int32) + x8)]) (rest := [.ref (g.2.2.1 0)]) (hC _) (c_L_at l (gW g aw _) (u_3, W) hxs hLL ((20 : Int32) + x8) h) wd_332 wd_333 wd_0 wd_334 hy_L_at rfl rfl ⟨by decide, by decide⟩ ⟨(show (cz + 687) + 0 ≤ 600312 by omega), (show (sz + 4122) + 0 ≤ 7292578 by omega)⟩ rfl rfl (Nat.le_of_ble_eq_true rfl) dL_law_558) (fun r_4 M1 hq => ?_)
      obtain ⟨rfl, h⟩ := hq
      refine zm_iload (hC _) dL_law_561 7 rfl ?_
      refine zm_sipush (v := 977) (hC _) dL_law_563 (by decide) ?_
      refine zm_imul (hC _) dL_law_566 ?_
      refine zm_ixor (hC _) dL_law_567 ?_
      refine zm_ci (zr_S (As := [.ref (g.2.2.1 0), .int (r_4 ^^^ (x8 * (977 : Int32)))]) (rest := []) (hC _) (c_L_changes l hstk _ u_3 W (r_4 ^^^ (x8 * (977 : Int32))) h) wd_1094 wd_1095 wd_0 wd_1096 hy_L_changes rfl rfl ⟨by decide, by decide⟩ ⟨(show (cz + 687) + 73 ≤ 600312 by omega), (show (sz + 4122) + 438 ≤ 7292578 by omega)⟩ rfl rfl (Nat.le_of_ble_eq_true rfl) dL_law_568) (fun r_6 M1 hq => ?_)
      obtain ⟨u_7, rfl, h⟩ := hq
      refine zm_if_eq (tgt := 587) (hC _) dL_law_571 (by decide) (fun hc_8 => ?_) (fun hc_8 => ?_)
      · have h := h.1 hc_8
        refine zm_aload_n (hC _) dL_law_587 rfl 2 rfl ?_
        refine zm_cl (zr_S (As := [.ref (g.2.2.1 0)]) (rest := []) (hC _) (c_L_asks l hstk _ u_7 W  h) wd_904 wd_905 wd_0 wd_906 hy_L_asks rfl rfl ⟨by decide, by decide⟩ ⟨(show (cz + 760) + 687 ≤ 600312 by omega), (show (sz + 4560) + 4122 ≤ 7292578 by omega)⟩ rfl rfl (Nat.le_of_ble_eq_true rfl) dL_law_588) (fun r_9 M1 hq => ?_)
        obtain ⟨u_10, rfl, h⟩ := hq
        refine zm_lload (hC _) dL_law_591 0 rfl ?_
        refine zm_lcmp (hC _) dL_law_593 ?_
        refine zm_if_eq (tgt := 599) (hC _) dL_law_594 (by decide) (fun hc_11 => ?_) (fun hc_11 => ?_)
        · have h := h.1 hc_11
          exact zm_sub [1, 2, 3, 4, 5, 6, 7] rfl (vb_R_lawb_599 hxs hLL hstk hC hend (O538 := 9704 + n * 1447 + 0) (by omega) (fun _ _ _ _ _ _ _ _ h1 h2 h3 => ih _ _ _ _ _ _ _ _ (by omega) (by omega) h3) _ _ _ _ _ _ _ _ (by omega) (by omega) h)
        · have h := h.2 hc_11
          refine zm_iconst (v := 0) (hC _) dL_law_597 (by decide) ?_
          exact h.elim
      · have h := h.2 hc_8
        refine zm_aload (hC _) dL_law_574 5 rfl ?_
        refine zm_iload (hC _) dL_law_576 6 rfl ?_
        obtain ⟨x7_12, hx7_12⟩ : ∃ z, z = x7 + (1 : Int32) := ⟨_, rfl⟩
        have h := h x7_12 hx7_12
        refine zm_iinc (v := x7_12) (lv' := [(7, .int x7_12), (9, .long r_2), (0, .ref g.2.2.2.2.2.1.1), (2, .ref (g.2.2.1 0)), (3, .long x3), (5, .int x5), (6, .ref aw), (8, .int x8)]) (hC _) dL_law_578 6 rfl (by rw [hx7_12]; rfl) (by decide) rfl ?_
        refine zm_lload (hC _) dL_law_581 1 rfl ?_
        obtain ⟨hg_13, h⟩ := h
        refine zw_last (hC _) hg_13 dL_law_583 (fun f_14 hf_14 => ?_)
        have h := h f_14 hf_14
        refine zm_goto (tgt := 599) (hC _) dL_law_584 (by decide) ?_
        exact zm_sub [2, 3, 4, 5, 6, 0, 7] rfl (vb_R_lawb_599 hxs hLL hstk hC hend (O538 := 9704 + n * 1447 + 0) (by omega) (fun _ _ _ _ _ _ _ _ h1 h2 h3 => ih _ _ _ _ _ _ _ _ (by omega) (by omega) h3) _ _ _ _ _ _ _ _ (by omega) (by omega) h)
def wb_R_lawb_532 (xs : Nat → Int32) (L : Nat) (Q : Prop) (x3 : Int64) (x5 : Int32) (u : MU) (f : Nat → Int64) : Prop := ∃ nn, nn ≤ 9 ∧ wl_R_lawb_538 xs L Q nn x3 x5 (0 : Int32) (0 : Int32) u f
set_option maxHeartbeats 4000000 in
set_option maxRecDepth 100000 in
theorem vb_R_lawb_532 {p : Program} {l : Launch} {e : Env} {s : State} {m : MethodId} {args : Array Value} {below : List Frame} {meth : Method} {c : Code} {g : GE} {W : MU × ((Nat → Int64) × (Nat → UInt64))} {Qz : State → Prop} {Q : Prop} {xs : Nat → Int32} {L : Nat} (hxs : g.2.2.2.2.2.1.2.2 = xs) (hLL : g.2.2.2.2.2.1.2.1 = L) (hstk : l.stackTraces = false) {aw : Nat} (hC : ∀ f, zCx p l s m args meth c (gW g aw f) RL cL_law 11) (hend : Q → ∀ (u : MU) (f : Nat → Int64), WM p l e room_1 s m args below meth c (gW g aw f) 11 600312 7292578 Qz 716 [] [.int 1] (u, W)) (x3 : Int64) (x5 : Int32) (u : MU) (f : Nat → Int64) (cz sz : Nat) (hz : cz + 22727 + 0 ≤ 600312) (hs : sz + 6 * (22727 + 0) ≤ 7292578) (h : wb_R_lawb_532 xs L Q x3 x5 u f) : WM p l e room_1 s m args below meth c (gW g aw f) 11 cz sz Qz 532 [(0, .ref g.2.2.2.2.2.1.1), (2, .ref (g.2.2.1 0)), (3, .long x3), (5, .int x5), (6, .ref aw)] [] (u, W) := by
  unfold wb_R_lawb_532 at h
  refine zm_iconst (v := 0) (hC _) dL_law_532 (by decide) ?_
  refine zm_istore (lv' := [(7, .int (0 : Int32)), (0, .ref g.2.2.2.2.2.1.1), (2, .ref (g.2.2.1 0)), (3, .long x3), (5, .int x5), (6, .ref aw)]) (hC _) dL_law_533 (by decide) rfl ?_
  refine zm_iconst (v := 0) (hC _) dL_law_535 (by decide) ?_
  refine zm_istore (lv' := [(8, .int (0 : Int32)), (7, .int (0 : Int32)), (0, .ref g.2.2.2.2.2.1.1), (2, .ref (g.2.2.1 0)), (3, .long x3), (5, .int x5), (6, .ref aw)]) (hC _) dL_law_536 (by decide) rfl ?_
  obtain ⟨nn, hnn, h⟩ := h
  exact zm_sub [2, 3, 4, 5, 6, 1, 0] rfl (vl_R_lawb_538 hxs hLL hstk hC hend  nn _ _ _ _ _ _ _ _ (by omega) (by omega) h)
