theorem hz_J4_init_da8c8 : (yJ4_init_da8c8.cls ≠ "java/lang/invoke/MethodHandle" ∧ yJ4_init_da8c8.cls ≠ "java/lang/invoke/VarHandle" ∧ (parseMethodDescriptor yJ4_init_da8c8.desc).map (fun d => d.parameters.length) = some 0) := ⟨by decide +kernel, by decide +kernel, by decide +kernel⟩
theorem hy_J4_init_da8c8 : yJ4_init_da8c8.cls = RJ4 ∧ (yJ4_init_da8c8.cls ≠ "java/lang/invoke/MethodHandle" ∧ yJ4_init_da8c8.cls ≠ "java/lang/invoke/VarHandle" ∧ (parseMethodDescriptor yJ4_init_da8c8.desc).map (fun d => d.parameters.length) = some 0) := ⟨rfl, hz_J4_init_da8c8⟩
theorem hz_J4_append_15ec4 : (yJ4_append_15ec4.cls ≠ "java/lang/invoke/MethodHandle" ∧ yJ4_append_15ec4.cls ≠ "java/lang/invoke/VarHandle" ∧ (parseMethodDescriptor yJ4_append_15ec4.desc).map (fun d => d.parameters.length) = some 1) := ⟨by decide +kernel, by decide +kernel, by decide +kernel⟩
theorem hy_J4_append_15ec4 : yJ4_append_15ec4.cls = RJ4 ∧ (yJ4_append_15ec4.cls ≠ "java/lang/invoke/MethodHandle" ∧ yJ4_append_15ec4.cls ≠ "java/lang/invoke/VarHandle" ∧ (parseMethodDescriptor yJ4_append_15ec4.desc).map (fun d => d.parameters.length) = some 1) := ⟨rfl, hz_J4_append_15ec4⟩
theorem hz_J4_append_bf812 : (yJ4_append_bf812.cls ≠ "java/lang/invoke/MethodHandle" ∧ yJ4_append_bf812.cls ≠ "java/lang/invoke/VarHandle" ∧ (parseMethodDescriptor yJ4_append_bf812.desc).map (fun d => d.parameters.length) = some 1) := ⟨by decide +kernel, by decide +kernel, by decide +kernel⟩
theorem hy_J4_append_bf812 : yJ4_append_bf812.cls = RJ4 ∧ (yJ4_append_bf812.cls ≠ "java/lang/invoke/MethodHandle" ∧ yJ4_append_bf812.cls ≠ "java/lang/invoke/VarHandle" ∧ (parseMethodDescriptor yJ4_append_bf812.desc).map (fun d => d.parameters.length) = some 1) := ⟨rfl, hz_J4_append_bf812⟩
theorem hz_J4_toString_0e30d : (yJ4_toString_0e30d.cls ≠ "java/lang/invoke/MethodHandle" ∧ yJ4_toString_0e30d.cls ≠ "java/lang/invoke/VarHandle" ∧ (parseMethodDescriptor yJ4_toString_0e30d.desc).map (fun d => d.parameters.length) = some 0) := ⟨by decide +kernel, by decide +kernel, by decide +kernel⟩
theorem hy_J4_toString_0e30d : yJ4_toString_0e30d.cls = RJ4 ∧ (yJ4_toString_0e30d.cls ≠ "java/lang/invoke/MethodHandle" ∧ yJ4_toString_0e30d.cls ≠ "java/lang/invoke/VarHandle" ∧ (parseMethodDescriptor yJ4_toString_0e30d.desc).map (fun d => d.parameters.length) = some 0) := ⟨rfl, hz_J4_toString_0e30d⟩
theorem hz_J0_charAt_5068e : (yJ0_charAt_5068e.cls ≠ "java/lang/invoke/MethodHandle" ∧ yJ0_charAt_5068e.cls ≠ "java/lang/invoke/VarHandle" ∧ (parseMethodDescriptor yJ0_charAt_5068e.desc).map (fun d => d.parameters.length) = some 1) := ⟨by decide +kernel, by decide +kernel, by decide +kernel⟩
theorem hy_J0_charAt_5068e : yJ0_charAt_5068e.cls = RJ0 ∧ (yJ0_charAt_5068e.cls ≠ "java/lang/invoke/MethodHandle" ∧ yJ0_charAt_5068e.cls ≠ "java/lang/invoke/VarHandle" ∧ (parseMethodDescriptor yJ0_charAt_5068e.desc).map (fun d => d.parameters.length) = some 1) := ⟨rfl, hz_J0_charAt_5068e⟩
/-! TEXTS at the law's level: the list of further cells grows and shrinks -/
def zGx (g : GE) (x : va_W) : GE := (g.1, (g.2.1, (g.2.2.1, (g.2.2.2.1, (x, g.2.2.2.2.2)))))
theorem zW_gx (g : GE) (M : Mem) (x : va_W) : zW (zGx g x) M = ((List.range 117).map fun k => (g.2.2.1 k, zCell g M k)) ++ x := rfl
theorem zW_app (g : GE) (M : Mem) (v : va_W) : zW g M ++ v = zW (zGx g (g.2.2.2.2.1 ++ v)) M := by
  rw [zW_gx]
  unfold zW
  rw [List.append_assoc]
theorem zW_setx (g : GE) (M : Mem) (x : va_W) (i : Nat) (y : Nat × va_E) : (zW (zGx g x) M).set (117 + i) y = zW (zGx g (x.set i y)) M := by
  rw [zW_gx, zW_gx, List.set_append_right _ _ (by rw [zW_len]; exact Nat.le_add_right _ _), zW_len, Nat.add_sub_cancel_left]
theorem zW_atx (g : GE) (M : Mem) (x : va_W) (i : Nat) : (zW (zGx g x) M)[117 + i]? = x[i]? := zW_x (zGx g x) M i
theorem zDist_of {g : GE} {M : Mem} (h : va_D (zA g) (zW g M)) : zDist g := fun M' => by
  have e : ∀ (k : Nat) (p : Nat × va_E), (zW g M')[k]? = some p → ∃ p2, (zW g M)[k]? = some p2 ∧ p2.1 = p.1 := fun k p hp => by
    by_cases hk : k < 117
    · rw [zW_at g M' hk] at hp
      cases hp
      exact ⟨_, zW_at g M hk, rfl⟩
    · obtain ⟨i, rfl⟩ : ∃ i, k = 117 + i := ⟨k - 117, by omega⟩
      rw [zW_x] at hp
      exact ⟨p, by rw [zW_x]; exact hp, rfl⟩
  refine ⟨fun i j p q hi hj he => ?_, fun k q hk => ?_⟩
  · obtain ⟨p2, h1, h2⟩ := e i p hi
    obtain ⟨q2, h3, h4⟩ := e j q hj
    exact h.1 i j p2 q2 h1 h3 (by rw [h2, h4]; exact he)
  · obtain ⟨q2, h3, h4⟩ := e k q hk
    rw [← h4]
    exact h.2 k q2 h3
section ZS
variable {p : Program} {l : Launch} {e : Env} {R : Room} {s : State} {m : MethodId} {args : Array Value} {below : List Frame} {meth : Method} {c : Code} {g : GE} {own : String} {cc : ByteArray} {nL cells slots mc ms : Nat} {Q : State → Prop} {pc : Nat} {lv lv' : List (Nat × Value)} {st st0 rest As : List Value} {ws x : va_W} {M : Mem} {a : Nat}
theorem zJxOf (C : zCx p l s m args meth c g own cc nL) : zJx p l s m args meth c g own cc nL := ⟨C.hx, C.hb, C.hml, C.hown, C.ht, C.hlocks, C.hfix, C.hbase, C.henv⟩
theorem zCxX (C : zCx p l s m args meth c g own cc nL) (hd : zDist (zGx g x)) : zCx p l s m args meth c (zGx g x) own cc nL := ⟨C.hx, C.hb, C.hml, C.hown, C.ht, C.hlocks, C.hfix, hd, C.hbase, C.2.2.2.2.2.2.2.2.2⟩
theorem zw_j (C : zCx p l s m args meth c g own cc nL) (k : JW p l e R s m args below meth c g nL cells slots Q pc lv st (zW g M)) : WM p l e R s m args below meth c g nL cells slots Q pc lv st M := fun H locs ls hl hp hs => k H locs ls hl hp.1 (C.hdist M) hs
theorem jw_gx (k : JW p l e R s m args below meth c g nL cells slots Q pc lv st ws) : JW p l e R s m args below meth c (zGx g x) nL cells slots Q pc lv st ws := k
theorem zj_w (C : zCx p l s m args meth c g own cc nL) (hw : ws = zW (zGx g x) M) (k : zCx p l s m args meth c (zGx g x) own cc nL → WM p l e R s m args below meth c (zGx g x) nL cells slots Q pc lv st M) : JW p l e R s m args below meth c g nL cells slots Q pc lv st ws := fun H locs ls hl hp hd hs => by
  subst hw
  exact k (zCxX C (zDist_of (g := zGx g x) hd)) H locs ls hl ⟨hp, vx_Zq.kept C.hthr.1 hs.2.1, vx_Zq.kept C.hthr.2 hs.2.1, C.henv.kept hs.2.1⟩ hs
/-- further cells may be forgotten -/
theorem zb_end (C : zCx p l s m args meth c g own cc nL) {v : va_W} (k : WM p l e R s m args below meth c g nL cells slots Q pc lv st M) : WM p l e R s m args below meth c (zGx g (g.2.2.2.2.1 ++ v)) nL cells slots Q pc lv st M := fun H locs ls hl hp hs =>
  k H locs ls hl ⟨fun i q hq => hp.1 i q (by rw [← zW_app, List.getElem?_append_left (List.getElem?_eq_some_iff.mp hq).1]; exact hq), hp.2⟩ hs
/-- a StringBuilder that is being filled: n letters, bytes f -/
def zX2 (g : GE) (sb pb n : Nat) (f : Nat → Int32) : va_W := g.2.2.2.2.1 ++ [(sb, zSB pb n), (pb, zBY g 16 f)]
theorem zX2_i {sb pb n : Nat} {f : Nat → Int32} : (zW (zGx g (zX2 g sb pb n f)) M)[117 + g.2.2.2.2.1.length]? = some (sb, zSB pb n) := by
  rw [zW_atx]
  unfold zX2
  rw [List.getElem?_append_right (Nat.le_refl _), Nat.sub_self]
  rfl
theorem zX2_j {sb pb n : Nat} {f : Nat → Int32} : (zW (zGx g (zX2 g sb pb n f)) M)[117 + (g.2.2.2.2.1.length + 1)]? = some (pb, zBY g 16 f) := by
  rw [zW_atx]
  unfold zX2
  rw [List.getElem?_append_right (Nat.le_add_right _ 1), Nat.add_sub_cancel_left]
  rfl
theorem zX2_set {sb pb n n' : Nat} {f f' : Nat → Int32} : ((zW (zGx g (zX2 g sb pb n f)) M).set (117 + (g.2.2.2.2.1.length + 1)) (pb, zBY g 16 f')).set (117 + g.2.2.2.2.1.length) (sb, zSB pb n') = zW (zGx g (zX2 g sb pb n' f')) M := by
  rw [zW_setx, zW_setx]
  refine congrArg (fun z => zW (zGx g z) M) ?_
  unfold zX2
  rw [List.set_append_right _ _ (Nat.le_add_right _ 1), Nat.add_sub_cancel_left, List.set_append_right _ _ (Nat.le_refl _), Nat.sub_self]
  rfl
theorem zX2_ne {n : Nat} : 117 + n ≠ 117 + (n + 1) := by omega
theorem zb_new (C : zCx p l s m args meth c g own cc nL) {ik ic : Nat} (w1 : Cond.classLink own ik RJ4 ∈ TB) (w2 : Cond.instantiable RJ4 4 ∈ TB) (w3 : Cond.initialized RJ4 ∈ TB) (w4 : Cond.methodLink own ic yJ4_init_da8c8 ∈ TB) (w5 : Cond.instanceMethod yJ4_init_da8c8 ∈ TB) (w6 : Cond.code yJ4_init_da8c8 cJ4_init_da8c8 1 (Option.none : Option Jvm.ClassFile.FieldType) ∈ TB) (hRf : 2 + 1 ≤ R.frames) (hRl : 8 + (1 + 11) + 41 ≤ R.locals) (hc : cells + 1 + 1 ≤ R.cells) (hs0 : slots + 4 + 16 ≤ R.slots) (hroom : (st.map fun v => v.category).sum ≤ 6) (d0 : decode cc pc = .ok (.new ik, 3)) (d3 : decode cc (pc + 3) = .ok (.dup, 1)) (d4 : decode cc (pc + 4) = .ok (.invokespecial ic, 3)) (k : ∀ sb pb : Nat, zCx p l s m args meth c (zGx g (zX2 g sb pb 0 (fun _ => 0))) own cc nL → WM p l e R s m args below meth c (zGx g (zX2 g sb pb 0 (fun _ => 0))) nL (cells + 1 + 1) (slots + 4 + 16) Q (pc + 7) lv (.ref sb :: st) M) : WM p l e R s m args below meth c g nL cells slots Q pc lv st M := by
  have J := zJxOf C
  refine zw_j C ?_
  refine zj_new (ci := 10) (fs := [.null, .int 0, .int 0, .int 0]) J iJ4 tyJ4 tyJ4_ok w1 w2 w3 rfl (zFs (by rfl)) (by omega) (by omega) d0 (fun sb w hw => ?_)
  refine zj_dup J d3 rfl ?_
  have hi : w[(zW g M).length]? = some (sb, .inr (10, [.null, .int 0, .int 0, .int 0])) := by rw [hw, List.getElem?_append_right (Nat.le_refl _), Nat.sub_self]; rfl
  refine zj_cv (fun H locs ls hl hp hd hs => zk_I (As := []) (rest := .ref sb :: st) J.hx J.hb J.hml J.hown J.ht (cJ_J4_init_da8c8 l g hi) w4 w5 w3 w6 rfl rfl hz_J4_init_da8c8 rfl rfl ⟨hRf, hRl⟩ ⟨hc, hs0⟩ (zPreJ J hp hd hs [.ref sb]) rfl hl.1 rfl (by show 1 + (st.map fun v => v.category).sum ≤ 8; omega) d4) (fun w2 hq => ?_)
  obtain ⟨pb, hq⟩ := hq
  refine zj_w (x := zX2 g sb pb 0 (fun _ => 0)) C ?_ (k sb pb)
  rw [hq, hw, zset_last, List.append_assoc]
  exact zW_app g M _
theorem zm_ldcSW (C : zCx p l s m args meth c g own cc nL) {index : Nat} (i : Nat) (hi : i < 7) (ho : own = RL) (hj : zLitI.getD i 0 = index) (d : decode cc pc = .ok (.ldc_w index, 3)) (k : WM p l e R s m args below meth c g nL cells slots Q (pc + 3) lv (.ref (g.2.2.2.2.2.2.1 i) :: st) M) : WM p l e R s m args below meth c g nL cells slots Q pc lv st M := fun H locs ls hl hp hs => by
  have hZ : vk_R own index (zLitT.getD i "") (g.2.2.2.2.2.2.1 i) s := by rw [ho, ← hj]; exact C.hfix.2.2.2.2 i hi
  intro T hT X
  obtain ⟨t, a1, b1⟩ := k H locs ls hl hp hs T hT X
  exact ⟨t, X.ldcStringW C.hx C.hown (text := zLitT.getD i "") (a := g.2.2.2.2.2.2.1 i) hZ.1 hZ.2 (g := F0 m pc ls st) rfl (by rw [C.hb]; exact d) t a1, b1⟩
theorem zb_lit (C : zCx p l s m args meth c g own cc nL) {sb pb n : Nat} {f : Nat → Int32} (C1 : zCx p l s m args meth c (zGx g (zX2 g sb pb n f)) own cc nL) {q is ic : Nat} (hq : q < 7) (ho : own = RL) (hz : zLitI.getD q 0 = is) (hn : n + (zLitB.getD q []).length ≤ 16) (w1 : Cond.methodLink own ic yJ4_append_15ec4 ∈ TB) (w2 : Cond.instanceMethod yJ4_append_15ec4 ∈ TB) (w3 : Cond.selects RJ4 yJ4_append_15ec4 yJ4_append_15ec4 ∈ TB) (w4 : Cond.initialized RJ4 ∈ TB) (w5 : Cond.code yJ4_append_15ec4 cJ4_append_15ec4 2 (Option.some (Jvm.ClassFile.FieldType.object "java/lang/StringBuilder")) ∈ TB) (hRf : 4 + 1 ≤ R.frames) (hRl : 8 + (2 + 11) + 136 ≤ R.locals) (hc : cells + 0 ≤ R.cells ∧ slots + 0 ≤ R.slots) (hroom : (st.map fun v => v.category).sum ≤ 8) (d0 : decode cc pc = .ok (.ldc is, 2)) (d1 : decode cc (pc + 2) = .ok (.invokevirtual ic, 3)) (k : zCx p l s m args meth c (zGx g (zX2 g sb pb (n + (zLitB.getD q []).length) (va_cpy (fun z => (zLitB.getD q []).getD z 0) f 0 n (zLitB.getD q []).length))) own cc nL → WM p l e R s m args below meth c (zGx g (zX2 g sb pb (n + (zLitB.getD q []).length) (va_cpy (fun z => (zLitB.getD q []).getD z 0) f 0 n (zLitB.getD q []).length))) nL (cells + 0) (slots + 0) Q (pc + 2 + 3) lv (.ref sb :: st) M) : WM p l e R s m args below meth c (zGx g (zX2 g sb pb n f)) nL cells slots Q pc lv (.ref sb :: st) M := by
  have J := zJxOf C1
  refine zm_ldcS C1 q hq ho hz d0 ?_
  refine zw_j C1 ?_
  refine zj_cr (fun H locs ls hl hp hd hs => zk_V (b := sb) (As := [.ref (g.2.2.2.2.2.2.1 q)]) (rest := st) J.hx J.hb J.hml J.hown J.ht (cJ_J4_append_15ec4 l (zGx g (zX2 g sb pb n f)) (q := q) (zX2_i (g := g) (M := M) (sb := sb) (pb := pb) (n := n) (f := f)) (zX2_j (g := g) (M := M) (sb := sb) (pb := pb) (n := n) (f := f)) zX2_ne hq hn) w1 w2 w3 w4 w5 hy_J4_append_15ec4 rfl rfl ⟨hRf, hRl⟩ hc (zPreJV J hp hd hs (zX2_i (g := g) (M := M) (sb := sb) (pb := pb) (n := n) (f := f)) rfl rfl [.ref (g.2.2.2.2.2.2.1 q)]) rfl hl.1 rfl hroom d1) (fun ra w hq0 => ?_)
  obtain ⟨e1, e2⟩ := hq0
  rw [e1]
  refine jw_gx ?_
  exact zj_w (x := zX2 g sb pb (n + (zLitB.getD q []).length) _) C (by rw [e2]; exact zX2_set (g := g) (M := M)) k
theorem zb_litW (C : zCx p l s m args meth c g own cc nL) {sb pb n : Nat} {f : Nat → Int32} (C1 : zCx p l s m args meth c (zGx g (zX2 g sb pb n f)) own cc nL) {q is ic : Nat} (hq : q < 7) (ho : own = RL) (hz : zLitI.getD q 0 = is) (hn : n + (zLitB.getD q []).length ≤ 16) (w1 : Cond.methodLink own ic yJ4_append_15ec4 ∈ TB) (w2 : Cond.instanceMethod yJ4_append_15ec4 ∈ TB) (w3 : Cond.selects RJ4 yJ4_append_15ec4 yJ4_append_15ec4 ∈ TB) (w4 : Cond.initialized RJ4 ∈ TB) (w5 : Cond.code yJ4_append_15ec4 cJ4_append_15ec4 2 (Option.some (Jvm.ClassFile.FieldType.object "java/lang/StringBuilder")) ∈ TB) (hRf : 4 + 1 ≤ R.frames) (hRl : 8 + (2 + 11) + 136 ≤ R.locals) (hc : cells + 0 ≤ R.cells ∧ slots + 0 ≤ R.slots) (hroom : (st.map fun v => v.category).sum ≤ 8) (d0 : decode cc pc = .ok (.ldc_w is, 3)) (d1 : decode cc (pc + 3) = .ok (.invokevirtual ic, 3)) (k : zCx p l s m args meth c (zGx g (zX2 g sb pb (n + (zLitB.getD q []).length) (va_cpy (fun z => (zLitB.getD q []).getD z 0) f 0 n (zLitB.getD q []).length))) own cc nL → WM p l e R s m args below meth c (zGx g (zX2 g sb pb (n + (zLitB.getD q []).length) (va_cpy (fun z => (zLitB.getD q []).getD z 0) f 0 n (zLitB.getD q []).length))) nL (cells + 0) (slots + 0) Q (pc + 3 + 3) lv (.ref sb :: st) M) : WM p l e R s m args below meth c (zGx g (zX2 g sb pb n f)) nL cells slots Q pc lv (.ref sb :: st) M := by
  have J := zJxOf C1
  refine zm_ldcSW C1 q hq ho hz d0 ?_
  refine zw_j C1 ?_
  refine zj_cr (fun H locs ls hl hp hd hs => zk_V (b := sb) (As := [.ref (g.2.2.2.2.2.2.1 q)]) (rest := st) J.hx J.hb J.hml J.hown J.ht (cJ_J4_append_15ec4 l (zGx g (zX2 g sb pb n f)) (q := q) (zX2_i (g := g) (M := M) (sb := sb) (pb := pb) (n := n) (f := f)) (zX2_j (g := g) (M := M) (sb := sb) (pb := pb) (n := n) (f := f)) zX2_ne hq hn) w1 w2 w3 w4 w5 hy_J4_append_15ec4 rfl rfl ⟨hRf, hRl⟩ hc (zPreJV J hp hd hs (zX2_i (g := g) (M := M) (sb := sb) (pb := pb) (n := n) (f := f)) rfl rfl [.ref (g.2.2.2.2.2.2.1 q)]) rfl hl.1 rfl hroom d1) (fun ra w hq0 => ?_)
  obtain ⟨e1, e2⟩ := hq0
  rw [e1]
  refine jw_gx ?_
  exact zj_w (x := zX2 g sb pb (n + (zLitB.getD q []).length) _) C (by rw [e2]; exact zX2_set (g := g) (M := M)) k
theorem zb_int (C : zCx p l s m args meth c g own cc nL) {sb pb n v : Nat} {f : Nat → Int32} (C1 : zCx p l s m args meth c (zGx g (zX2 g sb pb n f)) own cc nL) {ic : Nat} {y : Int32} (hy : y = nI v) (hv : v < 10000) (hn : n + zDg v ≤ 16) (w1 : Cond.methodLink own ic yJ4_append_bf812 ∈ TB) (w2 : Cond.instanceMethod yJ4_append_bf812 ∈ TB) (w3 : Cond.selects RJ4 yJ4_append_bf812 yJ4_append_bf812 ∈ TB) (w4 : Cond.initialized RJ4 ∈ TB) (w5 : Cond.code yJ4_append_bf812 cJ4_append_bf812 2 (Option.some (Jvm.ClassFile.FieldType.object "java/lang/StringBuilder")) ∈ TB) (hRf : 2 + 1 ≤ R.frames) (hRl : 8 + (2 + 11) + 49 ≤ R.locals) (hc : cells + 0 ≤ R.cells ∧ slots + 0 ≤ R.slots) (hroom : (st.map fun v => v.category).sum ≤ 8) (d1 : decode cc pc = .ok (.invokevirtual ic, 3)) (k : ∀ f' : Nat → Int32, (∀ z, z < n → f' z = f z) → (v < 10 → f' n = nI (48 + v)) → (sb_Fit f → sb_Fit f') → zCx p l s m args meth c (zGx g (zX2 g sb pb (n + zDg v) f')) own cc nL → WM p l e R s m args below meth c (zGx g (zX2 g sb pb (n + zDg v) f')) nL (cells + 0) (slots + 0) Q (pc + 3) lv (.ref sb :: st) M) : WM p l e R s m args below meth c (zGx g (zX2 g sb pb n f)) nL cells slots Q pc lv (.int y :: .ref sb :: st) M := by
  subst hy
  have J := zJxOf C1
  refine zw_j C1 ?_
  refine zj_cr (fun H locs ls hl hp hd hs => zk_V (b := sb) (As := [.int (nI v)]) (rest := st) J.hx J.hb J.hml J.hown J.ht (cJ_J4_append_bf812 l (zGx g (zX2 g sb pb n f)) (v := v) (zX2_i (g := g) (M := M) (sb := sb) (pb := pb) (n := n) (f := f)) (zX2_j (g := g) (M := M) (sb := sb) (pb := pb) (n := n) (f := f)) zX2_ne hv hn) w1 w2 w3 w4 w5 hy_J4_append_bf812 rfl rfl ⟨hRf, hRl⟩ hc (zPreJV J hp hd hs (zX2_i (g := g) (M := M) (sb := sb) (pb := pb) (n := n) (f := f)) rfl rfl [.int (nI v)]) rfl hl.1 rfl hroom d1) (fun ra w hq0 => ?_)
  obtain ⟨e1, f', e2, e3, e4, e5⟩ := hq0
  rw [e1]
  refine jw_gx ?_
  exact zj_w (x := zX2 g sb pb (n + zDg v) f') C (by rw [e2]; exact zX2_set (g := g) (M := M)) (k f' e3 e4 e5)
theorem zb_str (C : zCx p l s m args meth c g own cc nL) {sb pb n : Nat} {f : Nat → Int32} (C1 : zCx p l s m args meth c (zGx g (zX2 g sb pb n f)) own cc nL) {ic : Nat} (hn : n < 16) (hfit : sb_Fit f) (w1 : Cond.methodLink own ic yJ4_toString_0e30d ∈ TB) (w2 : Cond.instanceMethod yJ4_toString_0e30d ∈ TB) (w3 : Cond.selects RJ4 yJ4_toString_0e30d yJ4_toString_0e30d ∈ TB) (w4 : Cond.initialized RJ4 ∈ TB) (w5 : Cond.code yJ4_toString_0e30d cJ4_toString_0e30d 1 (Option.some (Jvm.ClassFile.FieldType.object "java/lang/String")) ∈ TB) (hRf : 5 + 1 ≤ R.frames) (hRl : 8 + (1 + 11) + 160 ≤ R.locals) (hc : cells + 2 ≤ R.cells ∧ slots + 20 ≤ R.slots) (hroom : (st.map fun v => v.category).sum ≤ 8) (d1 : decode cc pc = .ok (.invokevirtual ic, 3)) (k : ∀ a pc2 : Nat, zCx p l s m args meth c (zGx g (g.2.2.2.2.1 ++ [(sb, zSB pb n), (pb, zBY g 16 f), (a, zSTR pc2), (pc2, zBY g n (va_cpy f (fun _ => 0) 0 0 n))])) own cc nL → WM p l e R s m args below meth c (zGx g (g.2.2.2.2.1 ++ [(sb, zSB pb n), (pb, zBY g 16 f), (a, zSTR pc2), (pc2, zBY g n (va_cpy f (fun _ => 0) 0 0 n))])) nL (cells + 2) (slots + 20) Q (pc + 3) lv (.ref a :: st) M) : WM p l e R s m args below meth c (zGx g (zX2 g sb pb n f)) nL cells slots Q pc lv (.ref sb :: st) M := by
  have J := zJxOf C1
  refine zw_j C1 ?_
  refine zj_cr (fun H locs ls hl hp hd hs => zk_V (b := sb) (As := []) (rest := st) J.hx J.hb J.hml J.hown J.ht (cJ_J4_toString_0e30d l (zGx g (zX2 g sb pb n f)) (zX2_i (g := g) (M := M) (sb := sb) (pb := pb) (n := n) (f := f)) (zX2_j (g := g) (M := M) (sb := sb) (pb := pb) (n := n) (f := f)) zX2_ne hn hfit) w1 w2 w3 w4 w5 hy_J4_toString_0e30d rfl rfl ⟨hRf, hRl⟩ hc (zPreJV J hp hd hs (zX2_i (g := g) (M := M) (sb := sb) (pb := pb) (n := n) (f := f)) rfl rfl []) rfl hl.1 rfl hroom d1) (fun a w hq0 => ?_)
  obtain ⟨pc2, e2⟩ := hq0
  refine jw_gx ?_
  refine zj_w (x := (g.2.2.2.2.1 ++ [(sb, zSB pb n), (pb, zBY g 16 f), (a, zSTR pc2), (pc2, zBY g n (va_cpy f (fun _ => 0) 0 0 n))])) C ?_ (k a pc2)
  rw [e2, zW_app]
  refine congrArg (fun z => zW (zGx g z) M) ?_
  show zX2 g sb pb n f ++ _ = _
  unfold zX2
  rw [List.append_assoc]
  rfl
/-- a text that can be read: frozen, or among the further cells -/
def zStrG (g : GE) (a : Nat) (bs : List Int32) (U : State) (H : Heap) : Prop := ∃ pb : Nat, zStrF a pb bs (zA g) U H ∨ ∃ (i j : Nat) (f : Nat → Int32), g.2.2.2.2.1[i]? = some (a, zSTR pb) ∧ g.2.2.2.2.1[j]? = some (pb, zBY g bs.length f) ∧ (∀ k, k < bs.length → f k = bs.getD k 0) ∧ bs.length < 2 ^ 31
theorem zStrG.moved {a : Nat} {bs : List Int32} {u U : State} {H : Heap} (hvm : u.vm.Alike U.vm) (h : zStrG g a bs u H) : zStrG g a bs U H := h.imp fun pb z => z.imp (fun y => y.moved hvm) id
theorem zStrG.kept {a : Nat} {bs : List Int32} {U : State} {H H1 : Heap} (h : zStrG g a bs U H) (hq : ∀ a : Nat, a < H.size → ¬ zA g a → H1[a]? = H[a]?) : zStrG g a bs U H1 := h.imp fun pb z => z.imp (fun y => y.kept hq) id
theorem zStr_fresh {H : Heap} (C : zCx p l s m args meth c g own cc nL) (hP : va_P g.1 zCl ws H) {i j pb : Nat} {f : Nat → Int32} {bs : List Int32} (hi : ws[i]? = some (a, zSTR pb)) (hj : ws[j]? = some (pb, zBY g bs.length f)) (hf : ∀ k, k < bs.length → f k = bs.getD k 0) (hl : bs.length < 2 ^ 31) : zStrF a pb bs zNo s H := by
  have hK := C.hK
  have fld : ∀ (k : Nat), k < 4 → ∀ v, [Value.ref pb, .int 0, .int 0, .int 0][k]? = some v → va_OF (TJ0 k).1 (TJ0 k).2.1 (TJ0 k).2.2.1 v a zNo s H := fun k hk v hv => by
    obtain ⟨r, h1, cell, q1, q2, q3, q4⟩ := hP i _ hi
    have hr : r = (RJ0, TJ0, 4) := Option.some.inj (h1.symm.trans rfl)
    subst hr
    obtain ⟨hS, hfc, kC, hkC, hkind⟩ := hK.1 11 _ rfl
    obtain ⟨cf, kf, fi, f, hi, hsl⟩ := hS k hk
    refine ⟨cf, kf, fi, f, cell, hi, (u_facts hfc hkC (u_lays C.ht iJ0 hk) hi).1, q1, (by rw [q3]; exact fun h => (by cases h)), ?_, fun h => h⟩
    rw [hsl, q4 k hk]
    unfold vp_V
    simp [hv]
  refine ⟨?_, fld 1 (by decide) _ rfl, fld 0 (by decide) _ rfl, ?_⟩
  · obtain ⟨cell, h1, h2, h3⟩ := va_recv hK hP (ci := 11) rfl hi
    exact ⟨cell, h1, h2, h3, fun h => h⟩
  · have h := hP j _ hj
    refine ⟨_, h, (hK.2 5 _ rfl).1 _ _, (fun q => (by cases q)), ?_, ?_, fun k hk => ?_, fun h => h⟩
    · show bs.length ≤ (arrV _ _ _).slots.size
      rw [arrV_size]; exact Nat.le_refl _
    · show (arrV _ _ _).slots.size.toInt32 = _
      rw [arrV_size]
      try rfl
    · show (arrV _ _ _).slots[k]? = _
      rw [arrV_read _ _ hk, hf k hk]
theorem zStr_at {H : Heap} {locs : List Loc} (C : zCx p l s m args meth c g own cc nL) {bs : List Int32} (hG : zStrG g a bs s s.heap) (hp : zPic g M s H) (hs : va_S (zA g) s.heap H locs) : ∃ pb, zStrF a pb bs zNo s H := by
  obtain ⟨pb, h | ⟨i, j, f, h1, h2, h3, h4⟩⟩ := hG
  · exact ⟨pb, (h.kept hs.2.1).narrow zNoA⟩
  · exact ⟨pb, zStr_fresh C hp.1 (i := 117 + i) (j := 117 + j) (by rw [zW_x]; exact h1) (by rw [zW_x]; exact h2) h3 h4⟩
theorem zLitG (C : zCx p l s m args meth c g own cc nL) {q : Nat} (hq : q < 7) {H : Heap} {locs : List Loc} (hs : va_S (zA g) s.heap H locs) : zStrG g (g.2.2.2.2.2.2.1 q) (zLitB.getD q []) s H := ⟨_, Or.inl ((C.henv.1 q hq).kept hs.2.1)⟩
theorem zm_slenS (C : zCx p l s m args meth c g own cc nL) {bs : List Int32} {i ic : Nat} (hG : zStrG g a bs s s.heap) (w1 : Cond.methodLink own ic yJ0_length_8abf5 ∈ TB) (w2 : Cond.instanceMethod yJ0_length_8abf5 ∈ TB) (w3 : Cond.selects RJ0 yJ0_length_8abf5 yJ0_length_8abf5 ∈ TB) (w4 : Cond.initialized RJ0 ∈ TB) (w5 : Cond.code yJ0_length_8abf5 cJ0_length_8abf5 1 (Option.some Jvm.ClassFile.FieldType.int) ∈ TB) (hRf : 1 + 1 ≤ R.frames) (hRl : 8 + (1 + 11) + 20 ≤ R.locals) (hc : cells + 0 ≤ R.cells ∧ slots + 0 ≤ R.slots) (hroom : (st.map fun v => v.category).sum ≤ 8) (d1 : decode cc pc = .ok (.invokevirtual ic, 3)) (k : WM p l e R s m args below meth c g nL cells slots Q (pc + 3) lv (.int (nI bs.length) :: st) M) : WM p l e R s m args below meth c g nL cells slots Q pc lv (.ref a :: st) M := by
  intro H locs ls hl hp hs
  obtain ⟨pb, hB⟩ := zStr_at C hG hp hs
  refine va_calli (zk_V (b := a) (As := []) (rest := st) C.hx C.hb C.hml C.hown C.ht (cJ_J0_length_8abf5 l g (a := a) (pb := pb) (bs := bs) ) w1 w2 w3 w4 w5 hy_J0_length_8abf5 rfl rfl ⟨hRf, hRl⟩ hc ⟨zRc_blind zBm_str, zRcv s hB, fun U hU hW => ⟨rfl, by rw [hU]; exact ((C.henv.2.1.kept hs.2.1).moved hW.alike).narrow zNoA, by show zStrF a pb bs zNo U U.heap; rw [hU]; exact hB.moved hW.alike⟩⟩ rfl hl.1 rfl hroom d1) hs (fun _ _ h => h.elim) (fun _ h => h.elim) (fun r u t H1 locs1 ht hal hw hB1 hz hk hS1 => ?_)
  subst hw
  exact k H1 locs1 ls hl (zPic.kept hp (hp.1.kept (fun i q hq => hk q.1 (hp.1 i q hq).lt (fun h => h))) (fun a ha _ => hk a ha (fun h => h))) hS1
theorem zm_schS (C : zCx p l s m args meth c g own cc nL) {bs : List Int32} {i ic : Nat} (hG : zStrG g a bs s s.heap) (hi : i < bs.length) (hlen : bs.length < 2 ^ 31) (w1 : Cond.methodLink own ic yJ0_charAt_5068e ∈ TB) (w2 : Cond.instanceMethod yJ0_charAt_5068e ∈ TB) (w3 : Cond.selects RJ0 yJ0_charAt_5068e yJ0_charAt_5068e ∈ TB) (w4 : Cond.initialized RJ0 ∈ TB) (w5 : Cond.code yJ0_charAt_5068e cJ0_charAt_5068e 2 (Option.some Jvm.ClassFile.FieldType.char) ∈ TB) (hRf : 3 + 1 ≤ R.frames) (hRl : 8 + (2 + 11) + 64 ≤ R.locals) (hc : cells + 0 ≤ R.cells ∧ slots + 0 ≤ R.slots) (hroom : (st.map fun v => v.category).sum ≤ 8) (d1 : decode cc pc = .ok (.invokevirtual ic, 3)) (k : WM p l e R s m args below meth c g nL cells slots Q (pc + 3) lv (.int (zChr (bs.getD i 0)) :: st) M) : WM p l e R s m args below meth c g nL cells slots Q pc lv (.int (nI i) :: .ref a :: st) M := by
  intro H locs ls hl hp hs
  obtain ⟨pb, hB⟩ := zStr_at C hG hp hs
  refine va_calli (zk_V (b := a) (As := [.int (nI i)]) (rest := st) C.hx C.hb C.hml C.hown C.ht (cJ_J0_charAt_5068e l g (a := a) (pb := pb) (bs := bs) hi hlen) w1 w2 w3 w4 w5 hy_J0_charAt_5068e rfl rfl ⟨hRf, hRl⟩ hc ⟨zRc_blind zBm_str, zRcv s hB, fun U hU hW => ⟨rfl, by rw [hU]; exact ((C.henv.2.1.kept hs.2.1).moved hW.alike).narrow zNoA, by show zStrF a pb bs zNo U U.heap; rw [hU]; exact hB.moved hW.alike⟩⟩ rfl hl.1 rfl hroom d1) hs (fun _ _ h => h.elim) (fun _ h => h.elim) (fun r u t H1 locs1 ht hal hw hB1 hz hk hS1 => ?_)
  subst hw
  exact k H1 locs1 ls hl (zPic.kept hp (hp.1.kept (fun i q hq => hk q.1 (hp.1 i q hq).lt (fun h => h))) (fun a ha _ => hk a ha (fun h => h))) hS1
end ZS
