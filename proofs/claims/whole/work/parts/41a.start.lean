/-! THE LAW FROM ITS ENTRY TO ITS LOOP -/
theorem wd_27 : (Jvm.Cond.classLink "FoxBurrowsLaw" (8 : Nat) "FoxBurrows") ∈ TB := zTB 27 (by decide +kernel) (by decide +kernel)
theorem wd_28 : (Jvm.Cond.instantiable "FoxBurrows" (16 : Nat)) ∈ TB := zTB 28 (by decide +kernel) (by decide +kernel)
theorem wd_29 : (Jvm.Cond.methodLink "FoxBurrowsLaw" (132 : Nat) ({ cls := "FoxBurrows", name := "<init>", desc := "()V" } : Jvm.MethodName)) ∈ TB := zTB 29 (by decide +kernel) (by decide +kernel)
theorem wd_30 : (Jvm.Cond.instanceMethod ({ cls := "FoxBurrows", name := "<init>", desc := "()V" } : Jvm.MethodName)) ∈ TB := zTB 30 (by decide +kernel) (by decide +kernel)
theorem wd_31 : (Jvm.Cond.code ({ cls := "FoxBurrows", name := "<init>", desc := "()V" } : Jvm.MethodName) prog_1_method_1_code (1 : Nat) (Option.none : Option Jvm.ClassFile.FieldType)) ∈ TB := zTB 31 (by decide +kernel) (by decide +kernel)
theorem wd_1091 : (Jvm.Cond.classLink "FoxBurrowsLaw" (133 : Nat) "FoxBurrowsModel") ∈ TB := zTB 1091 (by decide +kernel) (by decide +kernel)
theorem wd_1092 : (Jvm.Cond.instantiable "FoxBurrowsModel" (26 : Nat)) ∈ TB := zTB 1092 (by decide +kernel) (by decide +kernel)
theorem wd_1093 : (Jvm.Cond.methodLink "FoxBurrowsLaw" (135 : Nat) ({ cls := "FoxBurrowsModel", name := "<init>", desc := "()V" } : Jvm.MethodName)) ∈ TB := zTB 1093 (by decide +kernel) (by decide +kernel)
theorem wd_1094 : (Jvm.Cond.instanceMethod ({ cls := "FoxBurrowsModel", name := "<init>", desc := "()V" } : Jvm.MethodName)) ∈ TB := zTB 1094 (by decide +kernel) (by decide +kernel)
theorem wd_1095 : (Jvm.Cond.code ({ cls := "FoxBurrowsModel", name := "<init>", desc := "()V" } : Jvm.MethodName) prog_12_method_1_code (1 : Nat) (Option.none : Option Jvm.ClassFile.FieldType)) ∈ TB := zTB 1095 (by decide +kernel) (by decide +kernel)
theorem wd_1480 : (Jvm.Cond.arrayClass Jvm.ClassFile.FieldType.long) ∈ TB := zTB 1480 (by decide +kernel) (by decide +kernel)
theorem wd_1481 : (Jvm.Cond.arrayClass Jvm.ClassFile.FieldType.double) ∈ TB := zTB 1481 (by decide +kernel) (by decide +kernel)
theorem zSt_ok : zStr.all (fun q => decide (Cond.stringRef RX9 q.1 q.2 ∈ lw_tbl)) = true := by decide +kernel
theorem zSt_ok2 : zStr.all (fun q => decide (Cond.exactly (.string RX9 q.1) "java/lang/String" ∈ flatC (Jvm.Cond.and given_1 narrow_1))) = true := by decide +kernel
theorem zNc_ok : zNc.all (fun q => decide (Cond.not (.castable q.1 q.2) ∈ flatC (Jvm.Cond.and given_1 narrow_1))) = true := by decide +kernel
theorem zAO_ok : Cond.arrayOver (.object "FoxBurrows$State") ∈ lw_tbl := List.mem_append_right _ (List.mem_of_getElem? (i := 126) (by decide +kernel))
theorem zArr {av : Array Value} {s : State} {ty : FieldType} (hr : ∀ C, ty ≠ .object C) (h : (Cond.arrayClass ty).before av s = true) : ∃ cA : ClassId, ArrOfT s cA ty ∧ va_RA s cA ty := by
  obtain ⟨cA, kA, comp, h1, h2, h3⟩ := Cond.arrayClass_spec h
  refine ⟨cA, fun N z => ⟨(fun k h => by cases h), kA, h2, comp, h3⟩, ?_⟩
  cases ty <;> first | exact h1 | exact absurd rfl (hr _)
theorem z_fix {b : Nat} {s : State} (hts : ∀ w ∈ lw_tbl, w.before #[Value.ref b] s = true) (hgv : (Jvm.Cond.and given_1 narrow_1).before #[Value.ref b] s = true) : ∃ (D : va_G) (ca : Nat → ClassId), ∀ (ad : Nat → Nat) (base : Nat), zFix (D, (ca, (ad, base))) s := by
  have hTB : ∀ w ∈ TB, w.before #[Value.ref b] s = true := fun w h => hts w (List.mem_filter.mp h).1
  have hs := flat_of_before _ hgv
  obtain ⟨c0, i0, k0⟩ := u_known hTB iX0 (hTB _ wd_120)
  obtain ⟨c1, i1, k1⟩ := u_known hTB iX1 (hTB _ wd_42)
  obtain ⟨c2, i2, k2⟩ := u_known hTB iX2 (hTB _ wd_84)
  obtain ⟨c3, i3, k3⟩ := u_known hTB iX3 (hTB _ wd_200)
  obtain ⟨c4, i4, k4⟩ := u_known hTB iX4 (hTB _ wd_226)
  obtain ⟨c5, i5, k5⟩ := u_known hTB iX5 (hTB _ wd_168)
  obtain ⟨c6, i6, k6⟩ := u_known hTB iX6 (hTB _ wd_36)
  obtain ⟨c7, i7, k7⟩ := u_known hTB iX7 (hTB _ wd_142)
  obtain ⟨c8, i8, k8⟩ := u_known hTB iX8 (hTB _ wd_184)
  obtain ⟨c9, i9, k9⟩ := u_known hTB iX9 (hTB _ wd_28)
  obtain ⟨c10, i10, k10⟩ := u_known hTB iX10 (hTB _ wd_1092)
  obtain ⟨a0, r0⟩ := zArr (by intro C h; cases h) (hTB _ wd_82)
  obtain ⟨a1, r1⟩ := zArr (by intro C h; cases h) (hTB _ wd_198)
  obtain ⟨a2, r2⟩ := zArr (by intro C h; cases h) (hTB _ wd_1480)
  obtain ⟨a3, r3⟩ := zArr (by intro C h; cases h) (hTB _ wd_1481)
  obtain ⟨comp, a4, kA, f1, -, f2, f3, f4⟩ := Cond.arrayOver_spec (hts _ zAO_ok)
  have r4 : ArrOfT s a4 (.object "FoxBurrows$State") ∧ va_RA s a4 (.object "FoxBurrows$State") := ⟨fun N z => ⟨(fun k h => by cases h), kA, f2, comp, f3⟩, kA, comp, f2, f3, f1, f4⟩
  refine ⟨(fun c => match c with | 0 => c0 | 1 => c1 | 2 => c2 | 3 => c3 | 4 => c4 | 5 => c5 | 6 => c6 | 7 => c7 | 8 => c8 | 9 => c9 | _ => c10, fun c => match c with | 0 => i0 | 1 => i1 | 2 => i2 | 3 => i3 | 4 => i4 | 5 => i5 | 6 => i6 | 7 => i7 | 8 => i8 | 9 => i9 | _ => i10), (fun c => match c with | 0 => a0 | 1 => a1 | 2 => a2 | 3 => a3 | _ => a4), fun ad base => ⟨⟨fun c q hq => ?_, fun c q hq => ?_⟩, fun w hw => ?_, fun q hq => ?_, fun q hq => ?_⟩⟩
  · have hc : c < 11 := (List.getElem?_eq_some_iff.mp hq).1
    match c, hq, hc with
    | 0, hq, _ => cases hq; exact k0
    | 1, hq, _ => cases hq; exact k1
    | 2, hq, _ => cases hq; exact k2
    | 3, hq, _ => cases hq; exact k3
    | 4, hq, _ => cases hq; exact k4
    | 5, hq, _ => cases hq; exact k5
    | 6, hq, _ => cases hq; exact k6
    | 7, hq, _ => cases hq; exact k7
    | 8, hq, _ => cases hq; exact k8
    | 9, hq, _ => cases hq; exact k9
    | 10, hq, _ => cases hq; exact k10
    | n + 11, _, hc => exact absurd hc (by omega)
  · have hc : c < 5 := (List.getElem?_eq_some_iff.mp hq).1
    match c, hq, hc with
    | 0, hq, _ => cases hq; exact r0
    | 1, hq, _ => cases hq; exact r1
    | 2, hq, _ => cases hq; exact r2
    | 3, hq, _ => cases hq; exact r3
    | 4, hq, _ => cases hq; exact r4
    | n + 5, _, hc => exact absurd hc (by omega)
  · obtain ⟨h1, h2⟩ := List.mem_filter.mp hw
    exact va_Nw.of (zNw_tab h2) (hts w h1)
  · have h1 := of_decide_eq_true (List.all_eq_true.mp zSt_ok q hq)
    have h2 := of_decide_eq_true (List.all_eq_true.mp zSt_ok2 q hq)
    obtain ⟨a, c, cA, kA, q1, -⟩ := Cond.exactly_spec (args := #[Value.ref b]) (first := s) (o := none) (s := s) (idx := []) (hs _ h2)
    exact ⟨a, vk_R.of (hts _ h1) q1⟩
  · have h2 := of_decide_eq_true (List.all_eq_true.mp zNc_ok q hq)
    exact va_Nc.of (hs _ h2)
