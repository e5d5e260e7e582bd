theorem wd_37 : (Jvm.Cond.instantiable "FoxBurrows" (16 : Nat)) ∈ TB := zTB 37 (by decide +kernel) (by decide +kernel)
theorem wd_1415 : (Jvm.Cond.arrayClass Jvm.ClassFile.FieldType.long) ∈ TB := zTB 1415 (by decide +kernel) (by decide +kernel)
/-! WHAT THE PREMISES GIVE: classes, statics, literals -/
theorem zSt_ok : zStr.all (fun q => decide (Cond.stringRef RX9 q.1 q.2 ∈ lw_tbl)) = true := by decide +kernel
theorem zSt_ok2 : zStr.all (fun q => decide (Cond.exactly (.string RX9 q.1) "java/lang/String" ∈ flatC (Jvm.Cond.and given_1 narrow_1))) = true := by decide +kernel
theorem zNc_ok : zNc.all (fun q => decide (Cond.not (.castable q.1 q.2) ∈ flatC (Jvm.Cond.and given_1 narrow_1))) = true := by decide +kernel
def zLt (i : Nat) : Term := .string RL (zLitI.getD i 0)
theorem zLi_1 : (List.range 7).all (fun i => decide (Cond.stringRef RL (zLitI.getD i 0) (zLitT.getD i "") ∈ lw_tbl)) = true := by decide +kernel
theorem zLi_2 : (List.range 7).all (fun i => decide (Cond.exactly (zLt i) "java/lang/String" ∈ flatC (Jvm.Cond.and given_1 narrow_1)) && (decide (Cond.eq (.field (zLt i) "java/lang/String" "coder" "B") (.int 0) ∈ flatC (Jvm.Cond.and given_1 narrow_1)) && (decide (Cond.arrayOf (.field (zLt i) "java/lang/String" "value" "[B") .byte ∈ flatC (Jvm.Cond.and given_1 narrow_1)) && decide (Cond.eq (.length (.field (zLt i) "java/lang/String" "value" "[B")) (.int (Int32.ofNat (zLitB.getD i []).length)) ∈ flatC (Jvm.Cond.and given_1 narrow_1))))) = true := by decide +kernel
def zLiP : List Nat := [955, 960, 974, 979, 1010, 1015, 1021]
theorem zLi_3 : (List.range 7).all (fun i => (List.range (zLitB.getD i []).length).all (fun j => decide ((flatC (Jvm.Cond.and given_1 narrow_1))[zLiP.getD i 0 + 4 + j]? = some (Cond.eq (.elem (.field (zLt i) "java/lang/String" "value" "[B") (.int (Int32.ofNat j))) (.int ((zLitB.getD i []).getD j 0)))))) = true := by decide +kernel
def zDgP1 : List Nat := [14, 15, 16, 17, 18, 19, 20, 21, 22, 23, 24, 25, 26, 27, 28, 29, 30, 31, 32, 33, 34, 35, 36, 37, 38, 39, 40, 41, 42, 43, 44, 45, 46, 47, 48, 49, 50, 51, 52, 53, 54, 55, 56, 57, 58, 59, 60, 61, 62, 63, 64, 65, 66, 67, 68, 69, 70, 71, 72, 73, 74, 75, 76, 77, 78, 79, 80, 81, 82, 83, 84, 85, 86, 87, 88, 89, 90, 91, 92, 93, 94, 95, 96, 97, 98, 99, 100, 101, 102, 103, 104, 105, 106, 107, 108, 109, 110, 111, 112, 113]
def zDgP2 : List Nat := [117, 118, 119, 120, 121, 122, 123, 124, 125, 126, 127, 128, 129, 130, 131, 132, 133, 134, 135, 136, 137, 138, 139, 140, 141, 142, 143, 144, 145, 146, 147, 148, 149, 150, 151, 152, 153, 154, 155, 156, 157, 158, 159, 160, 161, 162, 163, 164, 165, 166, 167, 168, 169, 170, 171, 172, 173, 174, 175, 176, 177, 178, 179, 180, 181, 182, 183, 184, 185, 186, 187, 188, 189, 190, 191, 192, 193, 194, 195, 196, 197, 198, 199, 200, 201, 202, 203, 204, 205, 206, 207, 208, 209, 210, 211, 212, 213, 214, 215, 216]
def zFl : List Cond := flatC (Jvm.Cond.and given_1 narrow_1)
theorem zDg_1 : (List.range 100).all (fun j => decide (zFl[zDgP1.getD j 0]? = some (Cond.eq (.elem (.static "java/lang/Integer" "DigitOnes" "[B") (.int (Int32.ofNat j))) (.int (zOnes.getD j 0))))) = true := by decide +kernel
theorem zDg_2 : (List.range 100).all (fun j => decide (zFl[zDgP2.getD j 0]? = some (Cond.eq (.elem (.static "java/lang/Integer" "DigitTens" "[B") (.int (Int32.ofNat j))) (.int (zTens.getD j 0))))) = true := by decide +kernel
theorem zAO_ok : Cond.arrayOver (.object "FoxBurrows$State") ∈ lw_tbl := List.mem_append_right _ (List.mem_of_getElem? (i := 135) (by decide +kernel))
theorem zArr {av : Array Value} {s : State} {ty : FieldType} (hr : ∀ C, ty ≠ .object C) (h : (Cond.arrayClass ty).before av s = true) : ∃ cA : ClassId, ArrOfT s cA ty ∧ va_RA s cA ty := by
  obtain ⟨cA, kA, comp, h1, h2, h3⟩ := Cond.arrayClass_spec h
  refine ⟨cA, fun N z => ⟨(fun k h => by cases h), kA, h2, comp, h3⟩, ?_⟩
  cases ty <;> first | exact h1 | exact absurd rfl (hr _)
theorem zDig {av : Array Value} {s : State} {nm : String} {vals : List Int32} (hl : (Cond.laysStatic "java/lang/Integer" nm "[B").before av s = true) (hini : (Cond.initialized "java/lang/Integer").before av s = true) (hA0 : (Cond.arrayOf (.static "java/lang/Integer" nm "[B") .byte).before av s = true) (hlen : (Cond.eq (.length (.static "java/lang/Integer" nm "[B")) (.int 100)).before av s = true) (hel : ∀ j, j < 100 → (Cond.eq (.elem (.static "java/lang/Integer" nm "[B") (.int (Int32.ofNat j))) (.int (vals.getD j 0))).before av s = true) (A : Nat → Prop) (hA : ∀ a : Nat, a < s.heap.size → ¬ A a) : ∃ t : Nat, va_Z "java/lang/Integer" nm "[B" (.ref t) A s s.heap ∧ va_T .byte t 100 (fun j => .int (vals.getD j 0)) A s s.heap := by
  have e1 : (Term.length (.static "java/lang/Integer" nm "[B")).eval av s none [] s = some (.int (Int32.ofNat 100)) := Cond.eq_int hlen rfl
  obtain ⟨t, ht, hT⟩ := va_Tof (tm := .static "java/lang/Integer" nm "[B") (ty := .byte) (N := 100) (f := fun j => .int (vals.getD j 0)) (by decide) hA0 e1 (fun j hj => Cond.eq_int (hel j hj) rfl) hA
  exact ⟨t, va_Zref hl hini ht hA, hT⟩
theorem zLitAll {b : Nat} {s : State} (hts : ∀ w ∈ lw_tbl, w.before #[Value.ref b] s = true) (hgv : (Jvm.Cond.and given_1 narrow_1).before #[Value.ref b] s = true) (A : Nat → Prop) (hA : ∀ a : Nat, a < s.heap.size → ¬ A a) : ∃ F : Nat → Nat × Nat, ∀ i, i < 7 → zStrF (F i).1 (F i).2 (zLitB.getD i []) A s s.heap ∧ vk_R RL (zLitI.getD i 0) (zLitT.getD i "") (F i).1 s := by
  have hs := flat_of_before _ hgv
  have key : ∀ i, ∃ q : Nat × Nat, i < 7 → zStrF q.1 q.2 (zLitB.getD i []) A s s.heap ∧ vk_R RL (zLitI.getD i 0) (zLitT.getD i "") q.1 s := by
    intro i
    by_cases hi : i < 7
    · have h1 := of_decide_eq_true (List.all_eq_true.mp zLi_1 i (List.mem_range.mpr hi))
      have h2 := List.all_eq_true.mp zLi_2 i (List.mem_range.mpr hi)
      have h3 := List.all_eq_true.mp zLi_3 i (List.mem_range.mpr hi)
      simp only [Bool.and_eq_true, decide_eq_true_eq] at h2
      have hlen := (zLit_b i hi).1
      have z0 : ∀ k, k < 1 → k = 0 := fun k hk => by omega
      obtain ⟨adK, adV, hS, hE⟩ := vk_Sof (args := #[Value.ref b]) (s := s) (N := 1) (tm := fun _ => zLt i) (len := [(zLitB.getD i []).length]) (byt := [zLitB.getD i []]) (A := A)
        (fun k hk => by rw [z0 k hk]; show (zLitB.getD i []).length < 2 ^ 31; omega)
        (fun _ _ => hs _ h2.1) (fun _ _ => hs _ h2.2.1) (fun _ _ => hs _ h2.2.2.1)
        (fun k hk => by rw [z0 k hk]; exact hs _ h2.2.2.2)
        (fun k hk j hj => by rw [z0 k hk] at hj ⊢; exact hs _ (List.mem_of_getElem? (of_decide_eq_true (List.all_eq_true.mp h3 j (List.mem_range.mpr hj)))))
        (fun x y hx hy hne => absurd (by omega : x = y) hne) hA
      exact ⟨(adK 0, adV 0), fun _ => ⟨hS.1 0 (by decide), vk_R.of (hts _ h1) (hE 0 (by decide))⟩⟩
    · exact ⟨(0, 0), fun h => absurd h hi⟩
  exact Classical.skolem.mp key
theorem zJdkOf {b : Nat} {s : State} (hts : ∀ w ∈ lw_tbl, w.before #[Value.ref b] s = true) (hgv : (Jvm.Cond.and given_1 narrow_1).before #[Value.ref b] s = true) (A : Nat → Prop) (hA : ∀ a : Nat, a < s.heap.size → ¬ A a) : zJdk A s s.heap := by
  have hs := flat_of_before _ hgv
  refine ⟨va_Zof (args := #[Value.ref b]) (hts _ (List.mem_append_right _ (List.mem_of_getElem? (i := 1128) (by decide +kernel)))) (hts _ (List.mem_append_right _ (List.mem_of_getElem? (i := 25) (by decide +kernel)))) (Cond.eq_int (hs (Jvm.Cond.eq (Jvm.Term.static "java/lang/String" "COMPACT_STRINGS" "Z") (Jvm.Term.int (1 : Int32))) (List.mem_of_getElem? (i := 6) (by decide +kernel))) rfl) hA, va_Zqof (args := #[Value.ref b]) (hts _ (List.mem_append_right _ (List.mem_of_getElem? (i := 1208) (by decide +kernel)))) (hts _ (List.mem_append_right _ (List.mem_of_getElem? (i := 30) (by decide +kernel)))) (hs (Jvm.Cond.isRef (Jvm.Term.static "jdk/internal/util/Preconditions" "SIOOBE_FORMATTER" "Ljava/util/function/BiFunction;")) (List.mem_of_getElem? (i := 7) (by decide +kernel))) hA, ?_, ?_⟩
  · exact zDig (av := #[Value.ref b]) (hts _ (List.mem_append_right _ (List.mem_of_getElem? (i := 1278) (by decide +kernel)))) (hts _ (List.mem_append_right _ (List.mem_of_getElem? (i := 20) (by decide +kernel)))) (hs (Jvm.Cond.arrayOf (Jvm.Term.static "java/lang/Integer" "DigitOnes" "[B") Jvm.ClassFile.FieldType.byte) (List.mem_of_getElem? (i := 12) (by decide +kernel))) (hs (Jvm.Cond.eq (Jvm.Term.length (Jvm.Term.static "java/lang/Integer" "DigitOnes" "[B")) (Jvm.Term.int (100 : Int32))) (List.mem_of_getElem? (i := 13) (by decide +kernel))) (fun j hj => hs _ (List.mem_of_getElem? (of_decide_eq_true (List.all_eq_true.mp zDg_1 j (List.mem_range.mpr hj))))) A hA
  · exact zDig (av := #[Value.ref b]) (hts _ (List.mem_append_right _ (List.mem_of_getElem? (i := 1280) (by decide +kernel)))) (hts _ (List.mem_append_right _ (List.mem_of_getElem? (i := 20) (by decide +kernel)))) (hs (Jvm.Cond.arrayOf (Jvm.Term.static "java/lang/Integer" "DigitTens" "[B") Jvm.ClassFile.FieldType.byte) (List.mem_of_getElem? (i := 115) (by decide +kernel))) (hs (Jvm.Cond.eq (Jvm.Term.length (Jvm.Term.static "java/lang/Integer" "DigitTens" "[B")) (Jvm.Term.int (100 : Int32))) (List.mem_of_getElem? (i := 116) (by decide +kernel))) (fun j hj => hs _ (List.mem_of_getElem? (of_decide_eq_true (List.all_eq_true.mp zDg_2 j (List.mem_range.mpr hj))))) A hA
theorem z_fix {b : Nat} {s : State} (hts : ∀ w ∈ lw_tbl, w.before #[Value.ref b] s = true) (hgv : (Jvm.Cond.and given_1 narrow_1).before #[Value.ref b] s = true) : ∃ (D : va_G) (ca : Nat → ClassId) (li : (Nat → Nat) × (Nat → Nat)), (∀ (ad : Nat → Nat) (base : Nat) (x : va_W) (sc : Nat × (Nat × (Nat → Int32))), zFix (D, (ca, (ad, (base, (x, (sc, li)))))) s) ∧ ∀ i, i < 7 → zStrF (li.1 i) (li.2 i) (zLitB.getD i []) (fun q => s.heap.size ≤ q) s s.heap := by
  have hTB : ∀ w ∈ TB, w.before #[Value.ref b] s = true := zTBts hts
  have hs := flat_of_before _ hgv
  obtain ⟨F, hF⟩ := zLitAll hts hgv (fun q => s.heap.size ≤ q) (fun a ha => Nat.not_le.mpr ha)
  obtain ⟨c0, i0, k0⟩ := u_known hTB iX0 (hTB _ wd_129)
  obtain ⟨c1, i1, k1⟩ := u_known hTB iX1 (hTB _ wd_51)
  obtain ⟨c2, i2, k2⟩ := u_known hTB iX2 (hTB _ wd_93)
  obtain ⟨c3, i3, k3⟩ := u_known hTB iX3 (hTB _ wd_209)
  obtain ⟨c4, i4, k4⟩ := u_known hTB iX4 (hTB _ wd_235)
  obtain ⟨c5, i5, k5⟩ := u_known hTB iX5 (hTB _ wd_177)
  obtain ⟨c6, i6, k6⟩ := u_known hTB iX6 (hTB _ wd_45)
  obtain ⟨c7, i7, k7⟩ := u_known hTB iX7 (hTB _ wd_151)
  obtain ⟨c8, i8, k8⟩ := u_known hTB iX8 (hTB _ wd_193)
  obtain ⟨c9, i9, k9⟩ := u_known hTB iX9 (hTB _ wd_37)
  obtain ⟨c10, i10, k10⟩ := u_known hTB iJ4 (hTB _ wd_1119)
  obtain ⟨c11, i11, k11⟩ := u_known hTB iJ0 (hTB _ wd_537)
  obtain ⟨a0, r0⟩ := zArr (by intro C h; cases h) (hTB _ wd_91)
  obtain ⟨a1, r1⟩ := zArr (by intro C h; cases h) (hTB _ wd_207)
  obtain ⟨a2, r2⟩ := zArr (by intro C h; cases h) (hTB _ wd_1415)
  obtain ⟨a5, r5⟩ := zArr (by intro C h; cases h) (hTB _ wd_438)
  obtain ⟨comp, a4, kA, f1, -, f2, f3, f4⟩ := Cond.arrayOver_spec (hts _ zAO_ok)
  have r4 : ArrOfT s a4 (.object "FoxBurrows$State") ∧ va_RA s a4 (.object "FoxBurrows$State") := ⟨fun N z => ⟨(fun k h => by cases h), kA, f2, comp, f3⟩, kA, comp, f2, f3, f1, f4⟩
  refine ⟨(fun c => match c with | 0 => c0 | 1 => c1 | 2 => c2 | 3 => c3 | 4 => c4 | 5 => c5 | 6 => c6 | 7 => c7 | 8 => c8 | 9 => c9 | 10 => c10 | _ => c11, fun c => match c with | 0 => i0 | 1 => i1 | 2 => i2 | 3 => i3 | 4 => i4 | 5 => i5 | 6 => i6 | 7 => i7 | 8 => i8 | 9 => i9 | 10 => i10 | _ => i11), (fun c => match c with | 0 => a0 | 1 => a1 | 2 => a2 | 3 => a0 | 4 => a4 | _ => a5), (fun i => (F i).1, fun i => (F i).2), fun ad base x sc => ⟨⟨fun c q hq => ?_, fun c q hq => ?_⟩, fun w hw => ?_, fun q hq => ?_, fun q hq => ?_, fun i hi => (hF i hi).2⟩, fun i hi => (hF i hi).1⟩
  · have hc : c < 12 := (List.getElem?_eq_some_iff.mp hq).1
    match c, hq, hc with
    | 0, hq, _ => cases hq; exact k0
    | 1, hq, _ => cases hq; exact k1
    | 2, hq, _ => cases hq; exact k2
    | 3, hq, _ => cases hq; exact k3
    | 4, hq, _ => cases hq; exact k4
    | 5, hq, _ => cases hq; exact k5
    | 6, hq, _ => cases hq; exact k6
    | 7, hq, _ => cases hq; exact k7
    | 8, hq, _ => cases hq; exact k8
    | 9, hq, _ => cases hq; exact k9
    | 10, hq, _ => cases hq; exact k10
    | 11, hq, _ => cases hq; exact k11
    | n + 12, _, hc => exact absurd hc (by omega)
  · have hc : c < 6 := (List.getElem?_eq_some_iff.mp hq).1
    match c, hq, hc with
    | 0, hq, _ => cases hq; exact r0
    | 1, hq, _ => cases hq; exact r1
    | 2, hq, _ => cases hq; exact r2
    | 3, hq, _ => cases hq; exact r0
    | 4, hq, _ => cases hq; exact r4
    | 5, hq, _ => cases hq; exact r5
    | n + 6, _, hc => exact absurd hc (by omega)
  · obtain ⟨h1, h2⟩ := List.mem_filter.mp hw
    exact va_Nw.of (zNw_tab h2) (hts w h1)
  · have h1 := of_decide_eq_true (List.all_eq_true.mp zSt_ok q hq)
    have h2 := of_decide_eq_true (List.all_eq_true.mp zSt_ok2 q hq)
    obtain ⟨a, c, cA, kA, q1, -⟩ := Cond.exactly_spec (args := #[Value.ref b]) (first := s) (o := none) (s := s) (idx := []) (hs _ h2)
    exact ⟨a, vk_R.of (hts _ h1) q1⟩
  · have h2 := of_decide_eq_true (List.all_eq_true.mp zNc_ok q hq)
    exact va_Nc.of (hs _ h2)
