/-! CONSTRUCTORS: the world is a list w0 ++ ws that grows -/
def WC (p : Program) (l : Launch) (e : Env) (R : Room) (s : State) (m : MethodId) (args : Array Value) (below : List Frame) (meth : Method) (c : Code) (g : GE) (nL cells slots : Nat) (Q : State → Prop) (pc : Nat) (lv : List (Nat × Value)) (st : List Value) (w0 ws : va_W) : Prop :=
  ∀ (H : Heap) (locs : List Loc) (ls : Array Slot), lv_has ls nL lv → va_P g.1 zCl (w0 ++ ws) H → va_D (zA g) (w0 ++ ws) → va_S (zA g) s.heap H locs → W p l e R s m args below meth c H locs cells slots Q (F0 m pc ls st)
def zKc (g : GE) (ws : va_W) (av : List Value) : Array Value → State → Prop := va_Pc av (fun U => va_P g.1 zCl ws U.heap ∧ va_D (zA g) ws ∧ zFix g U ∧ g.2.2.2.1 ≤ U.heap.size ∧ va_AO "FoxBurrows$State" U)
abbrev zKq (g : GE) (F : (Nat → Nat) → va_W) : Array Value → State → Outcome → State → Prop := va_Qv (fun _ : Nat → Nat => True) (fun ad t => va_P g.1 zCl (F ad) t.heap ∧ va_D (zA g) (F ad)) (zA g)
def zCc (p : Program) (l : Launch) (s : State) (m : MethodId) (args : Array Value) (meth : Method) (c : Code) (g : GE) (own : String) (cc : ByteArray) (nL : Nat) : Prop :=
  p.tables.exec = Jvm.exec ∧ c.code = cc ∧ c.maxLocals = nL ∧ s.vm.findClass own = some m.cls ∧ (∀ w ∈ TB, w.before args s = true) ∧ meth.locks = false ∧ zFix g s ∧ g.2.2.2.1 ≤ s.heap.size ∧ va_AO "FoxBurrows$State" s
section ZK
variable {p : Program} {l : Launch} {e : Env} {R : Room} {s : State} {m : MethodId} {args : Array Value} {below : List Frame} {meth : Method} {c : Code} {g : GE} {own : String} {cc : ByteArray} {nL cells slots mc ms : Nat} {Q : State → Prop} {pc : Nat} {lv lv' : List (Nat × Value)} {st st0 rest As : List Value} {w0 ws ws1 : va_W} {a : Nat}
theorem zCc.hx (C : zCc p l s m args meth c g own cc nL) : p.tables.exec = Jvm.exec := C.1
theorem zCc.hb (C : zCc p l s m args meth c g own cc nL) : c.code = cc := C.2.1
theorem zCc.hml (C : zCc p l s m args meth c g own cc nL) : c.maxLocals = nL := C.2.2.1
theorem zCc.hown (C : zCc p l s m args meth c g own cc nL) : s.vm.findClass own = some m.cls := C.2.2.2.1
theorem zCc.ht (C : zCc p l s m args meth c g own cc nL) : ∀ w ∈ TB, w.before args s = true := C.2.2.2.2.1
theorem zCc.hlocks (C : zCc p l s m args meth c g own cc nL) : meth.locks = false := C.2.2.2.2.2.1
theorem zCc.hfix (C : zCc p l s m args meth c g own cc nL) : zFix g s := C.2.2.2.2.2.2.1
theorem zCc.hbase (C : zCc p l s m args meth c g own cc nL) : g.2.2.2.1 ≤ s.heap.size := C.2.2.2.2.2.2.2.1
theorem zCc.hao (C : zCc p l s m args meth c g own cc nL) : va_AO "FoxBurrows$State" s := C.2.2.2.2.2.2.2.2
theorem zCc.hK (C : zCc p l s m args meth c g own cc nL) : va_K g.1 zCl (zTys g) s := C.hfix.1
theorem zCc.hA (C : zCc p l s m args meth c g own cc nL) : ∀ q : Nat, s.heap.size ≤ q → zA g q := fun _ h => Nat.le_trans C.hbase h
theorem zKc_blind {av : List Value} : FrameBlind (zKc g ws av) := by
  intro a U gf mk q
  obtain ⟨q0, q1, q2, q3, q4, q5⟩ := q
  exact ⟨q0, q1, q2, zFix.same (U := U.calling gf mk a) q3 rfl, q4, va_AO.moved (U := U.calling gf mk a) (Vm.Alike.refl U.vm) q5⟩
theorem zIx {i : Nat} {x : Nat × va_E} (h : ws[i]? = some x) : (w0 ++ ws)[w0.length + i]? = some x := by rw [List.getElem?_append_right (Nat.le_add_right _ _), Nat.add_sub_cancel_left]; exact h
theorem zSet (i : Nat) (x : Nat × va_E) : (w0 ++ ws).set (w0.length + i) x = w0 ++ ws.set i x := by rw [List.set_append_right _ _ (Nat.le_add_right _ _), Nat.add_sub_cancel_left]
theorem zc_iconst (C : zCc p l s m args meth c g own cc nL) {n0 : Int} {v : Int32} (d : decode cc pc = .ok (.iconst n0, 1)) (hv : Int32.ofInt n0 = v) (k : WC p l e R s m args below meth c g nL cells slots Q (pc + 1) lv (.int v :: st) w0 ws) : WC p l e R s m args below meth c g nL cells slots Q pc lv st w0 ws := fun H locs ls hl hP hD hS => lv_iconst C.hx C.hb d hv (k H locs ls hl hP hD hS)
theorem zc_bipush (C : zCc p l s m args meth c g own cc nL) {n0 : Int} {v : Int32} (d : decode cc pc = .ok (.bipush n0, 2)) (hv : (Int8.ofInt n0).toInt32 = v) (k : WC p l e R s m args below meth c g nL cells slots Q (pc + 2) lv (.int v :: st) w0 ws) : WC p l e R s m args below meth c g nL cells slots Q pc lv st w0 ws := fun H locs ls hl hP hD hS => lv_bipush C.hx C.hb d hv (k H locs ls hl hP hD hS)
theorem zc_sipush (C : zCc p l s m args meth c g own cc nL) {n0 : Int} {v : Int32} (d : decode cc pc = .ok (.sipush n0, 3)) (hv : (Int16.ofInt n0).toInt32 = v) (k : WC p l e R s m args below meth c g nL cells slots Q (pc + 3) lv (.int v :: st) w0 ws) : WC p l e R s m args below meth c g nL cells slots Q pc lv st w0 ws := fun H locs ls hl hP hD hS => lv_sipush C.hx C.hb d hv (k H locs ls hl hP hD hS)
theorem zc_aload_n (C : zCc p l s m args meth c g own cc nL) {k0 : Fin 4} {i x : Nat} (d : decode cc pc = .ok (.aload_n k0, 1)) (hi : (k0 : Nat) = i) (j : Nat) (hv : lv[j]? = some (i, .ref x)) (k : WC p l e R s m args below meth c g nL cells slots Q (pc + 1) lv (.ref x :: st) w0 ws) : WC p l e R s m args below meth c g nL cells slots Q pc lv st w0 ws := fun H locs ls hl hP hD hS => lv_aload_n C.hx C.hb d hi (lv_at hl j hv) (k H locs ls hl hP hD hS)
theorem zc_iload_n (C : zCc p l s m args meth c g own cc nL) {k0 : Fin 4} {i : Nat} {x : Int32} (d : decode cc pc = .ok (.iload_n k0, 1)) (hi : (k0 : Nat) = i) (j : Nat) (hv : lv[j]? = some (i, .int x)) (k : WC p l e R s m args below meth c g nL cells slots Q (pc + 1) lv (.int x :: st) w0 ws) : WC p l e R s m args below meth c g nL cells slots Q pc lv st w0 ws := fun H locs ls hl hP hD hS => lv_iload_n C.hx C.hb d hi (lv_at hl j hv) (k H locs ls hl hP hD hS)
theorem zc_dup (C : zCc p l s m args meth c g own cc nL) {va : Value} (d : decode cc pc = .ok (.dup, 1)) (h1 : va.category = 1) (k : WC p l e R s m args below meth c g nL cells slots Q (pc + 1) lv (va :: va :: st) w0 ws) : WC p l e R s m args below meth c g nL cells slots Q pc lv (va :: st) w0 ws := fun H locs ls hl hP hD hS => lv_dup C.hx C.hb d h1 (k H locs ls hl hP hD hS)
theorem zc_istore_n (C : zCc p l s m args meth c g own cc nL) {k0 : Fin 4} {i : Nat} {x : Int32} (d : decode cc pc = .ok (.istore_n k0, 1)) (hi : (k0 : Nat) = i) (hn0 : i < nL) (hv : (i, Value.int x) :: lv.filter (fun q => !(q.1 == i) && !(q.1 + 1 == i && q.2.category == 2)) = lv') (k : WC p l e R s m args below meth c g nL cells slots Q (pc + 1) lv' st w0 ws) : WC p l e R s m args below meth c g nL cells slots Q pc lv (.int x :: st) w0 ws := fun H locs ls hl hP hD hS => lv_istore_n C.hx C.hb d hi hl hn0 hv (fun ls' hl' => k H locs ls' hl' hP hD hS)
theorem zc_istore (C : zCc p l s m args meth c g own cc nL) {i : Nat} {x : Int32} (d : decode cc pc = .ok (.istore i, 2)) (hn0 : i < nL) (hv : (i, Value.int x) :: lv.filter (fun q => !(q.1 == i) && !(q.1 + 1 == i && q.2.category == 2)) = lv') (k : WC p l e R s m args below meth c g nL cells slots Q (pc + 2) lv' st w0 ws) : WC p l e R s m args below meth c g nL cells slots Q pc lv (.int x :: st) w0 ws := fun H locs ls hl hP hD hS => lv_istore C.hx C.hb d hl hn0 hv (fun ls' hl' => k H locs ls' hl' hP hD hS)
theorem zc_astore_n (C : zCc p l s m args meth c g own cc nL) {k0 : Fin 4} {i : Nat} {x : Nat} (d : decode cc pc = .ok (.astore_n k0, 1)) (hi : (k0 : Nat) = i) (hn0 : i < nL) (hv : (i, Value.ref x) :: lv.filter (fun q => !(q.1 == i) && !(q.1 + 1 == i && q.2.category == 2)) = lv') (k : WC p l e R s m args below meth c g nL cells slots Q (pc + 1) lv' st w0 ws) : WC p l e R s m args below meth c g nL cells slots Q pc lv (.ref x :: st) w0 ws := fun H locs ls hl hP hD hS => lv_astore_n C.hx C.hb d hi hl hn0 hv (fun ls' hl' => k H locs ls' hl' hP hD hS)
theorem zc_astore (C : zCc p l s m args meth c g own cc nL) {i : Nat} {x : Nat} (d : decode cc pc = .ok (.astore i, 2)) (hn0 : i < nL) (hv : (i, Value.ref x) :: lv.filter (fun q => !(q.1 == i) && !(q.1 + 1 == i && q.2.category == 2)) = lv') (k : WC p l e R s m args below meth c g nL cells slots Q (pc + 2) lv' st w0 ws) : WC p l e R s m args below meth c g nL cells slots Q pc lv (.ref x :: st) w0 ws := fun H locs ls hl hP hD hS => lv_astore C.hx C.hb d hl hn0 hv (fun ls' hl' => k H locs ls' hl' hP hD hS)
theorem zc_iinc (C : zCc p l s m args meth c g own cc nL) {i : Nat} {n0 : Int} {x v : Int32} (d : decode cc pc = .ok (.iinc i n0, 3)) (j : Nat) (hj : lv[j]? = some (i, .int x)) (hv : x + Int32.ofInt n0 = v) (hn0 : i < nL) (hf : (i, Value.int v) :: lv.filter (fun q => !(q.1 == i) && !(q.1 + 1 == i && q.2.category == 2)) = lv') (k : WC p l e R s m args below meth c g nL cells slots Q (pc + 3) lv' st w0 ws) : WC p l e R s m args below meth c g nL cells slots Q pc lv st w0 ws := fun H locs ls hl hP hD hS => lv_iinc C.hx C.hb d hl hj hv hn0 hf (fun ls' hl' => k H locs ls' hl' hP hD hS)
theorem zc_icmp_ge (C : zCc p l s m args meth c g own cc nL) {x y : Int32} {off : Int} {tgt : Nat} (d : decode cc pc = .ok (.if_icmp .ge off, 3)) (ht : (pc : Int) + off = (tgt : Int)) (kt : y ≤ x → WC p l e R s m args below meth c g nL cells slots Q tgt lv st w0 ws) (kf : ¬ y ≤ x → WC p l e R s m args below meth c g nL cells slots Q (pc + 3) lv st w0 ws) : WC p l e R s m args below meth c g nL cells slots Q pc lv (.int y :: .int x :: st) w0 ws := fun H locs ls hl hP hD hS => lv_icmp_ge C.hx C.hb d ht (fun h => kt h H locs ls hl hP hD hS) (fun h => kf h H locs ls hl hP hD hS)
theorem zc_goto (C : zCc p l s m args meth c g own cc nL) {off : Int} {tgt : Nat} (d : decode cc pc = .ok (.goto off, 3)) (ht : (pc : Int) + off = (tgt : Int)) (k : WC p l e R s m args below meth c g nL cells slots Q tgt lv st w0 ws) : WC p l e R s m args below meth c g nL cells slots Q pc lv st w0 ws := fun H locs ls hl hP hD hS => lv_goto C.hx C.hb d ht (k H locs ls hl hP hD hS)
theorem zc_objInit (C : zCc p l s m args meth c g own cc nL) {idx : Nat} (w1 : Cond.methodLink own idx Lib.objectInit ∈ TB) (w2 : Cond.instanceMethod Lib.objectInit ∈ TB) (w3 : Cond.code Lib.objectInit ⟨#[0xb1]⟩ 1 none ∈ TB) (d : decode cc pc = .ok (.invokespecial idx, 3)) (hf : 1 ≤ R.frames) (hlo : 20 ≤ R.locals) (hroom : (st.map fun v => v.category).sum ≤ 8) (k : WC p l e R s m args below meth c g nL cells slots Q (pc + 3) lv st w0 ws) : WC p l e R s m args below meth c g nL cells slots Q pc lv (.ref a :: st) w0 ws := fun H locs ls hl hP hD hS => W.objInit C.hx C.hb C.hown (C.ht _ w1) (C.ht _ w2) (C.ht _ w3) rfl (by rw [C.hml]; exact hl.1) rfl d hf (Nat.le_trans (Nat.add_le_add_right (lv_room hroom) 12) hlo) (k H locs ls hl hP hD hS)
theorem zc_new (C : zCc p l s m args meth c g own cc nL) {C0 : String} {T : u_T} {N ci index : Nat} (hin : ∀ w ∈ u_ws C0 T N, w ∈ TB) (ty : Nat → FieldType) (hty : ∀ k, k < N → parseFieldDescriptor (T k).2.2.1 = some (ty k)) (w1 : Cond.classLink own index C0 ∈ TB) (w2 : Cond.instantiable C0 N ∈ TB) (w3 : Cond.initialized C0 ∈ TB) (hc : zCl[ci]? = some (C0, T, N)) {fs : List Value} (hfs : ∀ j, j < N → defaultValue (ty j) = vp_V fs j) (hcells : cells + 1 ≤ R.cells) (hslots : slots + N ≤ R.slots) (d : decode cc pc = .ok (.new index, 3)) (k : ∀ a : Nat, WC p l e R s m args below meth c g nL (cells + 1) (slots + N) Q (pc + 3) lv (.ref a :: st) w0 (ws ++ [(a, .inr (ci, fs))])) : WC p l e R s m args below meth c g nL cells slots Q pc lv st w0 ws := by
  intro H locs ls hl hP hD hS
  have hKn := C.hK.1 ci _ hc
  refine W.newcK C.hx C.hb C.hown (C.ht _ w1) (C.ht _ w2) (C.ht _ w3) rfl d hcells hslots hKn.2.1 rfl fun H1 kC hkC e1 z1 o1 => ?_
  have hk : ∀ (k : Nat) (x : Nat × va_E), (w0 ++ ws)[k]? = some x → H1[x.1]? = H[x.1]? := fun k x hx => o1 x.1 ((hP k x hx).lt)
  have hlt : ∀ q : Nat, q < s.heap.size → q < H.size := fun q hq => Nat.lt_of_lt_of_le hq hS.1
  have hS1 : va_S (zA g) s.heap H1 locs := ⟨by rw [z1]; exact Nat.le_succ_of_le hS.1, fun x h1 h2 => (o1 x (hlt x h1)).trans (hS.2.1 x h1 h2), hS.2.2⟩
  refine k H.size H1 locs ls hl ?_ (by rw [← List.append_assoc]; exact hD.push hP rfl (C.hA _ hS.1)) hS1
  rw [← List.append_assoc]
  refine (hP.kept hk).app (fun k x hx => ?_)
  have hz : k < 1 := (List.getElem?_eq_some_iff.mp hx).1
  rw [show k = 0 by omega] at hx
  cases hx
  exact ⟨_, hc, (u_born ty C.ht hin hKn hkC e1 hty).to hfs⟩
theorem zc_newarr_int (C : zCc p l s m args meth c g own cc nL) (w1 : Cond.arrayClass .int ∈ TB) {v : Int32} {N : Nat} (hv : ¬ v < 0) (hN : v.toNatClampNeg = N) (hbytes : N * componentBytes .int ≤ 536870912) (hcells : cells + 1 ≤ R.cells) (hslots : slots + N ≤ R.slots) (d : decode cc pc = .ok (.newarray .int, 2)) (k : ∀ a : Nat, WC p l e R s m args below meth c g nL (cells + 1) (slots + N) Q (pc + 2) lv (.ref a :: st) w0 (ws ++ [(a, .inl (g.2.1 0, N, .inl (fun _ => 0)))])) : WC p l e R s m args below meth c g nL cells slots Q pc lv (.int v :: st) w0 ws := by
  intro H locs ls hl hP hD hS
  refine va_newaK (atype := .int) C.hx C.hb (C.ht _ w1) rfl d rfl hv hN hbytes hcells hslots rfl fun H1 cA e1 z1 o1 hAr hNm => ?_
  have hcA : cA = g.2.1 0 := by
    have h1 := (C.hK.2 0 _ rfl).2
    exact Option.some.inj (hNm.symm.trans h1)
  have hk : ∀ (k : Nat) (x : Nat × va_E), (w0 ++ ws)[k]? = some x → H1[x.1]? = H[x.1]? := fun k x hx => o1 x.1 ((hP k x hx).lt)
  have hlt : ∀ q : Nat, q < s.heap.size → q < H.size := fun q hq => Nat.lt_of_lt_of_le hq hS.1
  have hS1 : va_S (zA g) s.heap H1 locs := ⟨by rw [z1]; exact Nat.le_succ_of_le hS.1, fun x h1 h2 => (o1 x (hlt x h1)).trans (hS.2.1 x h1 h2), hS.2.2⟩
  refine k H.size H1 locs ls hl ?_ (by rw [← List.append_assoc]; exact hD.push hP rfl (C.hA _ hS.1)) hS1
  rw [← List.append_assoc]
  refine (hP.kept hk).app (fun k x hx => ?_)
  have hz : k < 1 := (List.getElem?_eq_some_iff.mp hx).1
  rw [show k = 0 by omega] at hx
  cases hx
  show H1[H.size]? = some (vp_cell _ _)
  rw [← hcA]
  exact e1
theorem zc_newarr_char (C : zCc p l s m args meth c g own cc nL) (w1 : Cond.arrayClass .char ∈ TB) {v : Int32} {N : Nat} (hv : ¬ v < 0) (hN : v.toNatClampNeg = N) (hbytes : N * componentBytes .char ≤ 536870912) (hcells : cells + 1 ≤ R.cells) (hslots : slots + N ≤ R.slots) (d : decode cc pc = .ok (.newarray .char, 2)) (k : ∀ a : Nat, WC p l e R s m args below meth c g nL (cells + 1) (slots + N) Q (pc + 2) lv (.ref a :: st) w0 (ws ++ [(a, .inl (g.2.1 1, N, .inl (fun _ => 0)))])) : WC p l e R s m args below meth c g nL cells slots Q pc lv (.int v :: st) w0 ws := by
  intro H locs ls hl hP hD hS
  refine va_newaK (atype := .char) C.hx C.hb (C.ht _ w1) rfl d rfl hv hN hbytes hcells hslots rfl fun H1 cA e1 z1 o1 hAr hNm => ?_
  have hcA : cA = g.2.1 1 := by
    have h1 := (C.hK.2 1 _ rfl).2
    exact Option.some.inj (hNm.symm.trans h1)
  have hk : ∀ (k : Nat) (x : Nat × va_E), (w0 ++ ws)[k]? = some x → H1[x.1]? = H[x.1]? := fun k x hx => o1 x.1 ((hP k x hx).lt)
  have hlt : ∀ q : Nat, q < s.heap.size → q < H.size := fun q hq => Nat.lt_of_lt_of_le hq hS.1
  have hS1 : va_S (zA g) s.heap H1 locs := ⟨by rw [z1]; exact Nat.le_succ_of_le hS.1, fun x h1 h2 => (o1 x (hlt x h1)).trans (hS.2.1 x h1 h2), hS.2.2⟩
  refine k H.size H1 locs ls hl ?_ (by rw [← List.append_assoc]; exact hD.push hP rfl (C.hA _ hS.1)) hS1
  rw [← List.append_assoc]
  refine (hP.kept hk).app (fun k x hx => ?_)
  have hz : k < 1 := (List.getElem?_eq_some_iff.mp hx).1
  rw [show k = 0 by omega] at hx
  cases hx
  show H1[H.size]? = some (vp_cell _ _)
  rw [← hcA]
  exact e1
theorem zc_newarr_long (C : zCc p l s m args meth c g own cc nL) (w1 : Cond.arrayClass .long ∈ TB) {v : Int32} {N : Nat} (hv : ¬ v < 0) (hN : v.toNatClampNeg = N) (hbytes : N * componentBytes .long ≤ 536870912) (hcells : cells + 1 ≤ R.cells) (hslots : slots + N ≤ R.slots) (d : decode cc pc = .ok (.newarray .long, 2)) (k : ∀ a : Nat, WC p l e R s m args below meth c g nL (cells + 1) (slots + N) Q (pc + 2) lv (.ref a :: st) w0 (ws ++ [(a, .inl (g.2.1 2, N, .inr (.inl (fun _ => 0))))])) : WC p l e R s m args below meth c g nL cells slots Q pc lv (.int v :: st) w0 ws := by
  intro H locs ls hl hP hD hS
  refine va_newaK (atype := .long) C.hx C.hb (C.ht _ w1) rfl d rfl hv hN hbytes hcells hslots rfl fun H1 cA e1 z1 o1 hAr hNm => ?_
  have hcA : cA = g.2.1 2 := by
    have h1 := (C.hK.2 2 _ rfl).2
    exact Option.some.inj (hNm.symm.trans h1)
  have hk : ∀ (k : Nat) (x : Nat × va_E), (w0 ++ ws)[k]? = some x → H1[x.1]? = H[x.1]? := fun k x hx => o1 x.1 ((hP k x hx).lt)
  have hlt : ∀ q : Nat, q < s.heap.size → q < H.size := fun q hq => Nat.lt_of_lt_of_le hq hS.1
  have hS1 : va_S (zA g) s.heap H1 locs := ⟨by rw [z1]; exact Nat.le_succ_of_le hS.1, fun x h1 h2 => (o1 x (hlt x h1)).trans (hS.2.1 x h1 h2), hS.2.2⟩
  refine k H.size H1 locs ls hl ?_ (by rw [← List.append_assoc]; exact hD.push hP rfl (C.hA _ hS.1)) hS1
  rw [← List.append_assoc]
  refine (hP.kept hk).app (fun k x hx => ?_)
  have hz : k < 1 := (List.getElem?_eq_some_iff.mp hx).1
  rw [show k = 0 by omega] at hx
  cases hx
  show H1[H.size]? = some (vp_cell _ _)
  rw [← hcA]
  exact e1
theorem zc_anew (C : zCc p l s m args meth c g own cc nL) {index : Nat} (w1 : Cond.classLink own index "FoxBurrows$State" ∈ TB) {v : Int32} {N : Nat} (hv : ¬ v < 0) (hN : v.toNatClampNeg = N) (hbytes : N * 4 ≤ 536870912) (hcells : cells + 1 ≤ R.cells) (hslots : slots + N ≤ R.slots) (d : decode cc pc = .ok (.anewarray index, 3)) (k : ∀ a : Nat, WC p l e R s m args below meth c g nL (cells + 1) (slots + N) Q (pc + 3) lv (.ref a :: st) w0 (ws ++ [(a, .inl (g.2.1 4, N, .inr (.inr (.inr (.inr (fun _ => none))))))])) : WC p l e R s m args below meth c g nL cells slots Q pc lv (.int v :: st) w0 ws := by
  intro H locs ls hl hP hD hS
  subst hN
  refine W.anew C.hx C.hb C.hown (C.ht _ w1) (va_AO.use C.hao) rfl d rfl hv hbytes hcells hslots fun cA kA comp f1 f2 f3 f4 => ?_
  generalize hH1 : H.push ({ cls := cA, slots := Array.replicate v.toNatClampNeg .null, vm := .none } : Cell) = H1
  have z1 : H1.size = H.size + 1 := by rw [← hH1, Array.size_push]
  have e1 : H1[H.size]? = some (arrV cA v.toNatClampNeg (fun _ => .null)) := by rw [← hH1, Array.getElem?_push_size, ← arrV_new]
  have o1 : ∀ q : Nat, q < H.size → H1[q]? = H[q]? := fun q hq => by rw [← hH1, Array.getElem?_push, if_neg (Nat.ne_of_lt hq)]
  have hcA : cA = g.2.1 4 := by
    obtain ⟨kA2, comp2, -, -, -, h1⟩ := (C.hK.2 4 _ rfl).2
    exact Option.some.inj (f1.symm.trans h1)
  have hk : ∀ (k : Nat) (x : Nat × va_E), (w0 ++ ws)[k]? = some x → H1[x.1]? = H[x.1]? := fun k x hx => o1 x.1 ((hP k x hx).lt)
  have hlt : ∀ q : Nat, q < s.heap.size → q < H.size := fun q hq => Nat.lt_of_lt_of_le hq hS.1
  have hS1 : va_S (zA g) s.heap H1 locs := ⟨by rw [z1]; exact Nat.le_succ_of_le hS.1, fun x h1 h2 => (o1 x (hlt x h1)).trans (hS.2.1 x h1 h2), hS.2.2⟩
  refine k H.size H1 locs ls hl ?_ (by rw [← List.append_assoc]; exact hD.push hP rfl (C.hA _ hS.1)) hS1
  rw [← List.append_assoc]
  refine (hP.kept hk).app (fun k x hx => ?_)
  have hz : k < 1 := (List.getElem?_eq_some_iff.mp hx).1
  rw [show k = 0 by omega] at hx
  cases hx
  show H1[H.size]? = some (vp_cell _ _)
  rw [vp_cell_q, ← hcA]
  exact e1
theorem zc_get (C : zCc p l s m args meth c g own cc nL) {C0 ref : String} {T : u_T} {N ci index : Nat} (hin : ∀ w ∈ u_ws C0 T N, w ∈ TB) (i : Nat) {fs : List Value} (he : ws[i]? = some (a, .inr (ci, fs))) (hc : zCl[ci]? = some (C0, T, N)) (k0 : Nat) (hk : k0 < N) (w1 : Cond.fieldLink own index ref (T k0).2.1 (T k0).2.2.1 ∈ TB) (hr : (T k0).1 = ref) {v : Value} (hv : fs[k0]? = some v) (d : decode cc pc = .ok (.getfield index, 3)) (k : WC p l e R s m args below meth c g nL cells slots Q (pc + 3) lv (v :: st) w0 ws) : WC p l e R s m args below meth c g nL cells slots Q pc lv (.ref a :: st) w0 ws := fun H locs ls hl hP hD hS => va_get C.hx C.hb C.ht hin C.hown C.hK hP (w0.length + i) (zIx he) hc k0 hk (C.ht _ w1) (fun x h9 => by rw [← hr]; exact h9) hv d (k H locs ls hl hP hD hS)
theorem zc_putF (C : zCc p l s m args meth c g own cc nL) {C0 ref : String} {T : u_T} {N ci index : Nat} (hin : ∀ w ∈ u_ws C0 T N, w ∈ TB) (ty0 : Nat → FieldType) (hty : ∀ k, k < N → parseFieldDescriptor (T k).2.2.1 = some (ty0 k)) (hnm : ∀ a, a < N → ∀ b, b < N → a ≠ b → (T a).2.1 ≠ (T b).2.1) (i : Nat) {fs : List Value} (he : ws[i]? = some (a, .inr (ci, fs))) (hc : zCl[ci]? = some (C0, T, N)) (k0 : Nat) (hk : k0 < N) (w1 : Cond.fieldLink own index ref (T k0).2.1 (T k0).2.2.1 ∈ TB) (hr : (T k0).1 = ref) (hfin : (T k0).2.2.2 = true) (hin2 : meth.name = "<init>") (hdecl : (T k0).1 = own) {ty : FieldType} {v : Value} (hd : parseFieldDescriptor (T k0).2.2.1 = some ty) (hnr : narrow ty v = v) (hfit : fits ty v = true) (hlen : k0 < fs.length) (d : decode cc pc = .ok (.putfield index, 3)) (hw : ws.set i (a, .inr (ci, fs.set k0 v)) = ws1) (k : WC p l e R s m args below meth c g nL cells slots Q (pc + 3) lv st w0 ws1) : WC p l e R s m args below meth c g nL cells slots Q pc lv (v :: .ref a :: st) w0 ws := by
  intro H locs ls hl hP hD hS
  subst hw
  refine va_putF C.hx C.hb C.ht hin ty0 hty hnm C.hown C.hK hP hD hS (w0.length + i) (zIx he) hc k0 hk (C.ht _ w1) (fun x h9 => by rw [← hr]; exact h9) hfin hin2 hdecl hd hnr hfit hlen d (fun H1 locs1 hP1 hD1 hS1 => ?_)
  rw [zSet] at hP1 hD1
  exact k H1 locs1 ls hl hP1 hD1 hS1
theorem zc_put (C : zCc p l s m args meth c g own cc nL) {C0 ref : String} {T : u_T} {N ci index : Nat} (hin : ∀ w ∈ u_ws C0 T N, w ∈ TB) (ty0 : Nat → FieldType) (hty : ∀ k, k < N → parseFieldDescriptor (T k).2.2.1 = some (ty0 k)) (hnm : ∀ a, a < N → ∀ b, b < N → a ≠ b → (T a).2.1 ≠ (T b).2.1) (i : Nat) {fs : List Value} (he : ws[i]? = some (a, .inr (ci, fs))) (hc : zCl[ci]? = some (C0, T, N)) (k0 : Nat) (hk : k0 < N) (w1 : Cond.fieldLink own index ref (T k0).2.1 (T k0).2.2.1 ∈ TB) (hr : (T k0).1 = ref) (hfin : (T k0).2.2.2 = false) {ty : FieldType} {v : Value} (hd : parseFieldDescriptor (T k0).2.2.1 = some ty) (hnr : narrow ty v = v) (hfit : fits ty v = true) (hlen : k0 < fs.length) (d : decode cc pc = .ok (.putfield index, 3)) (hw : ws.set i (a, .inr (ci, fs.set k0 v)) = ws1) (k : WC p l e R s m args below meth c g nL cells slots Q (pc + 3) lv st w0 ws1) : WC p l e R s m args below meth c g nL cells slots Q pc lv (v :: .ref a :: st) w0 ws := by
  intro H locs ls hl hP hD hS
  subst hw
  refine va_put C.hx C.hb C.ht hin ty0 hty hnm C.hown C.hK hP hD hS (w0.length + i) (zIx he) hc k0 hk (C.ht _ w1) (fun x h9 => by rw [← hr]; exact h9) hfin hd hnr hfit hlen d (fun H1 locs1 hP1 hD1 hS1 => ?_)
  rw [zSet] at hP1 hD1
  exact k H1 locs1 ls hl hP1 hD1 hS1
theorem zc_alen (C : zCc p l s m args meth c g own cc nL) (i : Nat) {x : vp_A} {ci0 : Nat} {ty : FieldType} (he : ws[i]? = some (a, .inl (g.2.1 ci0, x))) (hc : (zTys g)[ci0]? = some (g.2.1 ci0, ty)) {v : Int32} (hv : Int32.ofNat x.1 = v) (d : decode cc pc = .ok (.arraylength, 1)) (k : WC p l e R s m args below meth c g nL cells slots Q (pc + 1) lv (.int v :: st) w0 ws) : WC p l e R s m args below meth c g nL cells slots Q pc lv (.ref a :: st) w0 ws := fun H locs ls hl hP hD hS => va_alen C.hx C.hb C.hK hP (w0.length + i) ci0 (zIx he) hc hv d (k H locs ls hl hP hD hS)
theorem zc_iast (C : zCc p l s m args meth c g own cc nL) (i : Nat) {n : Nat} {f : Nat → Int32} {j x : Int32} (he : ws[i]? = some (a, .inl (g.2.1 0, n, .inl f))) (hin : vp_in j n) (d : decode cc pc = .ok (.iastore, 1)) (hw : ws.set i (a, .inl (g.2.1 0, n, .inl (upd f j.toNatClampNeg x))) = ws1) (k : WC p l e R s m args below meth c g nL cells slots Q (pc + 1) lv st w0 ws1) : WC p l e R s m args below meth c g nL cells slots Q pc lv (.int x :: .int j :: .ref a :: st) w0 ws := by
  intro H locs ls hl hP hD hS
  subst hw
  refine va_iast C.hx C.hb C.hK hP hD hS (w0.length + i) 0 (zIx he) rfl hin d (fun H1 locs1 hP1 hD1 hS1 => ?_)
  rw [zSet] at hP1 hD1
  exact k H1 locs1 ls hl hP1 hD1 hS1
theorem zc_aast (C : zCc p l s m args meth c g own cc nL) (i : Nat) {n b ci : Nat} {vs : List Value} {f : Nat → Option Nat} {j : Int32} {r : vw_C} (he : ws[i]? = some (a, .inl (g.2.1 4, n, .inr (.inr (.inr (.inr f)))))) (q : Nat) (hv : ws[q]? = some (b, .inr (ci, vs))) (hc : zCl[ci]? = some r) (hr : r.1 = "FoxBurrows$State") (hin : vp_in j n) (d : decode cc pc = .ok (.aastore, 1)) (hw : ws.set i (a, .inl (g.2.1 4, n, .inr (.inr (.inr (.inr (va_up f j.toNatClampNeg (some b))))))) = ws1) (k : WC p l e R s m args below meth c g nL cells slots Q (pc + 1) lv st w0 ws1) : WC p l e R s m args below meth c g nL cells slots Q pc lv (.ref b :: .int j :: .ref a :: st) w0 ws := by
  intro H locs ls hl hP hD hS
  subst hw
  refine va_astq C.hx C.hb C.hK hP hD hS (w0.length + i) 4 (w0.length + q) ci (zIx he) (by rw [hr]; rfl) (zIx hv) hc hin d (fun H1 locs1 hP1 hD1 hS1 => ?_)
  rw [zSet] at hP1 hD1
  exact k H1 locs1 ls hl hP1 hD1 hS1
theorem zc_vret (C : zCc p l s m args meth c g own cc nL) {F : (Nat → Nat) → va_W} (hr : meth.sig.returnType = none) (d : decode cc pc = .ok (.return_, 1)) (ad : Nat → Nat) (hF : F ad = w0 ++ ws) : WC p l e R s m args below meth c g nL cells slots (MQ below (zKq g F) args s cells slots (zA g)) pc lv [] w0 ws :=
  fun H locs ls hl hP hD hS => W.vret C.hx C.hb hr (fun t ht _ => ⟨⟨ad, rfl, trivial, by show va_P g.1 zCl (F ad) t.heap ∧ va_D (zA g) (F ad); rw [ht, hF]; exact ⟨hP, hD⟩⟩, hS.F ht⟩) hS.2.2 d (hlocks := C.hlocks)
theorem zc_call (C : zCc p l s m args meth c g own cc nL) {y : MethodName} {bytes : ByteArray} {mL index : Nat} {rm : Room} {blank : va_E} {ZF : Nat → (Nat → Nat) → va_W} (hM : ∀ (b : Nat) (v0 : va_W), Met l y (Cond.code y bytes mL none :: TB) rm (zKc g (v0 ++ [(b, blank)]) [.ref b]) (zKq g (fun ad => v0 ++ ZF b ad)) mc ms (zA g)) (w1 : Cond.methodLink own index y ∈ TB) (w2 : Cond.instanceMethod y ∈ TB) (w4 : Cond.initialized y.cls ∈ TB) (w5 : Cond.code y bytes mL none ∈ TB) (hyn : y.name = "<init>") (hy : y.cls ≠ "java/lang/invoke/MethodHandle" ∧ y.cls ≠ "java/lang/invoke/VarHandle" ∧ (parseMethodDescriptor y.desc).map (fun d => d.parameters.length) = some 0) (hrc : rm.cells = mc) (hrs : rm.slots = ms) (hR : rm.frames + 1 ≤ R.frames ∧ 8 + (mL + 11) + rm.locals ≤ R.locals) (hf : cells + mc ≤ R.cells ∧ slots + ms ≤ R.slots) (hroom : (st.map fun v => v.category).sum ≤ 8) (d : decode cc pc = .ok (.invokespecial index, 3)) (k : ∀ ad : Nat → Nat, WC p l e R s m args below meth c g nL (cells + mc) (slots + ms) Q (pc + 3) lv st w0 (ws ++ ZF a ad)) : WC p l e R s m args below meth c g nL cells slots Q pc lv (.ref a :: st) w0 (ws ++ [(a, blank)]) := by
  intro H locs ls hl hP hD hS
  refine va_callv (va_runI (As := []) ⟨C.hx, C.hb, C.hml, C.hown, C.ht⟩ (hM a (w0 ++ ws)) (cwI 0 C.ht (zGood1 w5) rfl hrc hrs (C.ht _ w4) (C.ht _ w1) (C.ht _ w2) hyn hy hR) ⟨zKc_blind, fun U hU hW => ⟨rfl, by rw [hU, List.append_assoc]; exact hP, by rw [List.append_assoc]; exact hD, C.hfix.warm hW, by rw [hU]; exact Nat.le_trans C.hbase hS.1, va_AO.moved hW.alike C.hao⟩⟩ rfl rfl hl.1 rfl (lv_room hroom) d hf) hS (fun q _ h => h) (fun q h => h) (fun ad t H1 locs1 ht hal _ hB hz hk hS1 => ?_)
  rw [ht] at hB
  simp only [List.append_assoc] at hB
  exact k ad H1 locs1 ls hl hB.1 hB.2 hS1
theorem zc_callN (C : zCc p l s m args meth c g own cc nL) {y : MethodName} {bytes : ByteArray} {mL index : Nat} {rm : Room} {host : String} {blank : va_E} {ZF : Nat → (Nat → Nat) → va_W} (hM : ∀ (b : Nat) (v0 : va_W), Met l y (Cond.code y bytes mL none :: TB) rm (zKc g (v0 ++ [(b, blank)]) [.ref b]) (zKq g (fun ad => v0 ++ ZF b ad)) mc ms (zA g)) (w1 : Cond.methodLinkNest own index y host ∈ TN) (w2 : Cond.instanceMethod y ∈ TB) (w4 : Cond.initialized y.cls ∈ TB) (w5 : Cond.code y bytes mL none ∈ TB) (hyn : y.name = "<init>") (hy : y.cls ≠ "java/lang/invoke/MethodHandle" ∧ y.cls ≠ "java/lang/invoke/VarHandle" ∧ (parseMethodDescriptor y.desc).map (fun d => d.parameters.length) = some 0) (hrc : rm.cells = mc) (hrs : rm.slots = ms) (hR : rm.frames + 1 ≤ R.frames ∧ 8 + (mL + 11) + rm.locals ≤ R.locals) (hf : cells + mc ≤ R.cells ∧ slots + ms ≤ R.slots) (hroom : (st.map fun v => v.category).sum ≤ 8) (d : decode cc pc = .ok (.invokespecial index, 3)) (k : ∀ ad : Nat → Nat, WC p l e R s m args below meth c g nL (cells + mc) (slots + ms) Q (pc + 3) lv st w0 (ws ++ ZF a ad)) : WC p l e R s m args below meth c g nL cells slots Q pc lv (.ref a :: st) w0 (ws ++ [(a, blank)]) := by
  intro H locs ls hl hP hD hS
  refine va_callv (va_runIN (As := []) ⟨C.hx, C.hb, C.hml, C.hown, C.ht⟩ (hM a (w0 ++ ws)) ⟨va_cnB 0 C.ht (zGood1 w5) rfl hrc hrs (C.hfix.2.1 _ w1) (C.ht _ w4) hy hR, hyn, C.ht _ w2⟩ ⟨zKc_blind, fun U hU hW => ⟨rfl, by rw [hU, List.append_assoc]; exact hP, by rw [List.append_assoc]; exact hD, C.hfix.warm hW, by rw [hU]; exact Nat.le_trans C.hbase hS.1, va_AO.moved hW.alike C.hao⟩⟩ rfl rfl hl.1 rfl (lv_room hroom) d hf) hS (fun q _ h => h) (fun q h => h) (fun ad t H1 locs1 ht hal _ hB hz hk hS1 => ?_)
  rw [ht] at hB
  simp only [List.append_assoc] at hB
  exact k ad H1 locs1 ls hl hB.1 hB.2 hS1
end ZK
theorem zKet {l : Launch} {y : MethodName} {cc : ByteArray} {mL : Nat} {rm : Room} {g : GE} {b : Nat} {v0 : va_W} {blank : va_E} {Qc : Array Value → State → Outcome → State → Prop} {mc ms : Nat} {own : String} (hy : plainName y.cls = true) (ho : y.cls = own) (hn : y.name = "<init>") (hmL : 1 ≤ mL)
    (body : ∀ p e s m args below meth c, zCc p l s m args meth c g own cc mL → meth.sig.returnType = none → meth.name = "<init>" → WC p l e rm s m args below meth c g mL 0 0 (MQ below Qc args s mc ms (zA g)) 0 [(0, .ref b)] [] v0 [(b, blank)]) : Met l y (Cond.code y cc mL none :: TB) rm (zKc g (v0 ++ [(b, blank)]) [.ref b]) Qc mc ms (zA g) := by
  refine Met.ofW (cc := cc) (maxL := mL) (ret := none) hy rfl ?_
  intro p e s m args below meth c s₁ B hml hv
  obtain ⟨rfl, hP, hD, hfix, hbase, hao⟩ := hv
  have hts := atoms_spec (ws := Cond.code y cc mL none :: TB) B.pre
  rw [lg_entry_eq]
  subst ho
  exact body p e s m _ below meth c ⟨B.exec, B.bytes, hml, findClass_of_methodNamed B.named, fun w hw => hts w (List.mem_cons_of_mem _ hw), B.notSynchronized, hfix, hbase, hao⟩ B.returns (by rw [(name_of_methodNamed B.named B.method).1]; exact hn) s.heap [] _ (lv_entry [.ref b] hmL) hP hD va_S.rf
theorem wd_10 : (Jvm.Cond.initialized "FoxBurrows$Reason") ∈ TB := zTB 10 (by decide +kernel) (by decide +kernel)
theorem wd_41 : (Jvm.Cond.methodLink "FoxBurrows" (1 : Nat) ({ cls := "java/lang/Object", name := "<init>", desc := "()V" } : Jvm.MethodName)) ∈ TB := zTB 41 (by decide +kernel) (by decide +kernel)
theorem wd_44 : (Jvm.Cond.classLink "FoxBurrows" (7 : Nat) "FoxBurrows$State") ∈ TB := zTB 44 (by decide +kernel) (by decide +kernel)
theorem wd_45 : (Jvm.Cond.instantiable "FoxBurrows$State" (3 : Nat)) ∈ TB := zTB 45 (by decide +kernel) (by decide +kernel)
theorem wd_46 : (Jvm.Cond.methodLinkNest "FoxBurrows" (9 : Nat) ({ cls := "FoxBurrows$State", name := "<init>", desc := "()V" } : Jvm.MethodName) "FoxBurrows") ∈ TN := zTN 46 (by decide +kernel) (by decide +kernel)
theorem wd_47 : (Jvm.Cond.instanceMethod ({ cls := "FoxBurrows$State", name := "<init>", desc := "()V" } : Jvm.MethodName)) ∈ TB := zTB 47 (by decide +kernel) (by decide +kernel)
theorem wd_48 : (Jvm.Cond.code ({ cls := "FoxBurrows$State", name := "<init>", desc := "()V" } : Jvm.MethodName) prog_8_method_1_code (1 : Nat) (Option.none : Option Jvm.ClassFile.FieldType)) ∈ TB := zTB 48 (by decide +kernel) (by decide +kernel)
theorem wd_49 : (Jvm.Cond.methodLink "FoxBurrows$State" (1 : Nat) ({ cls := "java/lang/Object", name := "<init>", desc := "()V" } : Jvm.MethodName)) ∈ TB := zTB 49 (by decide +kernel) (by decide +kernel)
theorem wd_50 : (Jvm.Cond.classLink "FoxBurrows$State" (7 : Nat) "FoxBurrows$Field") ∈ TB := zTB 50 (by decide +kernel) (by decide +kernel)
theorem wd_51 : (Jvm.Cond.instantiable "FoxBurrows$Field" (8 : Nat)) ∈ TB := zTB 51 (by decide +kernel) (by decide +kernel)
theorem wd_52 : (Jvm.Cond.methodLinkNest "FoxBurrows$State" (9 : Nat) ({ cls := "FoxBurrows$Field", name := "<init>", desc := "()V" } : Jvm.MethodName) "FoxBurrows") ∈ TN := zTN 52 (by decide +kernel) (by decide +kernel)
theorem wd_53 : (Jvm.Cond.instanceMethod ({ cls := "FoxBurrows$Field", name := "<init>", desc := "()V" } : Jvm.MethodName)) ∈ TB := zTB 53 (by decide +kernel) (by decide +kernel)
theorem wd_54 : (Jvm.Cond.code ({ cls := "FoxBurrows$Field", name := "<init>", desc := "()V" } : Jvm.MethodName) prog_3_method_1_code (1 : Nat) (Option.none : Option Jvm.ClassFile.FieldType)) ∈ TB := zTB 54 (by decide +kernel) (by decide +kernel)
theorem wd_55 : (Jvm.Cond.methodLink "FoxBurrows$Field" (3 : Nat) ({ cls := "java/lang/Object", name := "<init>", desc := "()V" } : Jvm.MethodName)) ∈ TB := zTB 55 (by decide +kernel) (by decide +kernel)
theorem wd_91 : (Jvm.Cond.arrayClass Jvm.ClassFile.FieldType.int) ∈ TB := zTB 91 (by decide +kernel) (by decide +kernel)
theorem wd_92 : (Jvm.Cond.classLink "FoxBurrows$State" (16 : Nat) "FoxBurrows$Game") ∈ TB := zTB 92 (by decide +kernel) (by decide +kernel)
theorem wd_93 : (Jvm.Cond.instantiable "FoxBurrows$Game" (4 : Nat)) ∈ TB := zTB 93 (by decide +kernel) (by decide +kernel)
theorem wd_94 : (Jvm.Cond.methodLinkNest "FoxBurrows$State" (18 : Nat) ({ cls := "FoxBurrows$Game", name := "<init>", desc := "()V" } : Jvm.MethodName) "FoxBurrows") ∈ TN := zTN 94 (by decide +kernel) (by decide +kernel)
theorem wd_95 : (Jvm.Cond.instanceMethod ({ cls := "FoxBurrows$Game", name := "<init>", desc := "()V" } : Jvm.MethodName)) ∈ TB := zTB 95 (by decide +kernel) (by decide +kernel)
theorem wd_96 : (Jvm.Cond.code ({ cls := "FoxBurrows$Game", name := "<init>", desc := "()V" } : Jvm.MethodName) prog_4_method_1_code (1 : Nat) (Option.none : Option Jvm.ClassFile.FieldType)) ∈ TB := zTB 96 (by decide +kernel) (by decide +kernel)
theorem wd_97 : (Jvm.Cond.methodLink "FoxBurrows$Game" (3 : Nat) ({ cls := "java/lang/Object", name := "<init>", desc := "()V" } : Jvm.MethodName)) ∈ TB := zTB 97 (by decide +kernel) (by decide +kernel)
theorem wd_128 : (Jvm.Cond.classLink "FoxBurrows" (22 : Nat) "FoxBurrows$Changes") ∈ TB := zTB 128 (by decide +kernel) (by decide +kernel)
theorem wd_129 : (Jvm.Cond.instantiable "FoxBurrows$Changes" (3 : Nat)) ∈ TB := zTB 129 (by decide +kernel) (by decide +kernel)
theorem wd_130 : (Jvm.Cond.methodLink "FoxBurrows" (24 : Nat) ({ cls := "FoxBurrows$Changes", name := "<init>", desc := "()V" } : Jvm.MethodName)) ∈ TB := zTB 130 (by decide +kernel) (by decide +kernel)
theorem wd_131 : (Jvm.Cond.instanceMethod ({ cls := "FoxBurrows$Changes", name := "<init>", desc := "()V" } : Jvm.MethodName)) ∈ TB := zTB 131 (by decide +kernel) (by decide +kernel)
theorem wd_132 : (Jvm.Cond.code ({ cls := "FoxBurrows$Changes", name := "<init>", desc := "()V" } : Jvm.MethodName) prog_2_method_1_code (2 : Nat) (Option.none : Option Jvm.ClassFile.FieldType)) ∈ TB := zTB 132 (by decide +kernel) (by decide +kernel)
theorem wd_133 : (Jvm.Cond.methodLink "FoxBurrows$Changes" (3 : Nat) ({ cls := "java/lang/Object", name := "<init>", desc := "()V" } : Jvm.MethodName)) ∈ TB := zTB 133 (by decide +kernel) (by decide +kernel)
theorem wd_134 : (Jvm.Cond.classLink "FoxBurrows$Changes" (9 : Nat) "FoxBurrows$State") ∈ TB := zTB 134 (by decide +kernel) (by decide +kernel)
theorem wd_136 : (Jvm.Cond.methodLinkNest "FoxBurrows$Changes" (17 : Nat) ({ cls := "FoxBurrows$State", name := "<init>", desc := "()V" } : Jvm.MethodName) "FoxBurrows") ∈ TN := zTN 136 (by decide +kernel) (by decide +kernel)
theorem wd_148 : (Jvm.Cond.classLink "FoxBurrows" (29 : Nat) "FoxBurrows$Field") ∈ TB := zTB 148 (by decide +kernel) (by decide +kernel)
theorem wd_149 : (Jvm.Cond.methodLinkNest "FoxBurrows" (31 : Nat) ({ cls := "FoxBurrows$Field", name := "<init>", desc := "()V" } : Jvm.MethodName) "FoxBurrows") ∈ TN := zTN 149 (by decide +kernel) (by decide +kernel)
theorem wd_150 : (Jvm.Cond.classLink "FoxBurrows" (36 : Nat) "FoxBurrows$Table") ∈ TB := zTB 150 (by decide +kernel) (by decide +kernel)
theorem wd_151 : (Jvm.Cond.instantiable "FoxBurrows$Table" (6 : Nat)) ∈ TB := zTB 151 (by decide +kernel) (by decide +kernel)
theorem wd_152 : (Jvm.Cond.methodLinkNest "FoxBurrows" (38 : Nat) ({ cls := "FoxBurrows$Table", name := "<init>", desc := "()V" } : Jvm.MethodName) "FoxBurrows") ∈ TN := zTN 152 (by decide +kernel) (by decide +kernel)
theorem wd_153 : (Jvm.Cond.instanceMethod ({ cls := "FoxBurrows$Table", name := "<init>", desc := "()V" } : Jvm.MethodName)) ∈ TB := zTB 153 (by decide +kernel) (by decide +kernel)
theorem wd_154 : (Jvm.Cond.code ({ cls := "FoxBurrows$Table", name := "<init>", desc := "()V" } : Jvm.MethodName) prog_9_method_1_code (1 : Nat) (Option.none : Option Jvm.ClassFile.FieldType)) ∈ TB := zTB 154 (by decide +kernel) (by decide +kernel)
theorem wd_155 : (Jvm.Cond.methodLink "FoxBurrows$Table" (3 : Nat) ({ cls := "java/lang/Object", name := "<init>", desc := "()V" } : Jvm.MethodName)) ∈ TB := zTB 155 (by decide +kernel) (by decide +kernel)
theorem wd_176 : (Jvm.Cond.classLink "FoxBurrows" (46 : Nat) "FoxBurrows$SecondWay") ∈ TB := zTB 176 (by decide +kernel) (by decide +kernel)
theorem wd_177 : (Jvm.Cond.instantiable "FoxBurrows$SecondWay" (3 : Nat)) ∈ TB := zTB 177 (by decide +kernel) (by decide +kernel)
theorem wd_178 : (Jvm.Cond.methodLinkNest "FoxBurrows" (48 : Nat) ({ cls := "FoxBurrows$SecondWay", name := "<init>", desc := "()V" } : Jvm.MethodName) "FoxBurrows") ∈ TN := zTN 178 (by decide +kernel) (by decide +kernel)
theorem wd_179 : (Jvm.Cond.instanceMethod ({ cls := "FoxBurrows$SecondWay", name := "<init>", desc := "()V" } : Jvm.MethodName)) ∈ TB := zTB 179 (by decide +kernel) (by decide +kernel)
theorem wd_180 : (Jvm.Cond.code ({ cls := "FoxBurrows$SecondWay", name := "<init>", desc := "()V" } : Jvm.MethodName) prog_7_method_1_code (1 : Nat) (Option.none : Option Jvm.ClassFile.FieldType)) ∈ TB := zTB 180 (by decide +kernel) (by decide +kernel)
theorem wd_181 : (Jvm.Cond.methodLink "FoxBurrows$SecondWay" (3 : Nat) ({ cls := "java/lang/Object", name := "<init>", desc := "()V" } : Jvm.MethodName)) ∈ TB := zTB 181 (by decide +kernel) (by decide +kernel)
theorem wd_192 : (Jvm.Cond.classLink "FoxBurrows" (53 : Nat) "FoxBurrows$Text") ∈ TB := zTB 192 (by decide +kernel) (by decide +kernel)
theorem wd_193 : (Jvm.Cond.instantiable "FoxBurrows$Text" (2 : Nat)) ∈ TB := zTB 193 (by decide +kernel) (by decide +kernel)
theorem wd_194 : (Jvm.Cond.methodLinkNest "FoxBurrows" (55 : Nat) ({ cls := "FoxBurrows$Text", name := "<init>", desc := "()V" } : Jvm.MethodName) "FoxBurrows") ∈ TN := zTN 194 (by decide +kernel) (by decide +kernel)
theorem wd_195 : (Jvm.Cond.instanceMethod ({ cls := "FoxBurrows$Text", name := "<init>", desc := "()V" } : Jvm.MethodName)) ∈ TB := zTB 195 (by decide +kernel) (by decide +kernel)
theorem wd_196 : (Jvm.Cond.code ({ cls := "FoxBurrows$Text", name := "<init>", desc := "()V" } : Jvm.MethodName) prog_10_method_1_code (1 : Nat) (Option.none : Option Jvm.ClassFile.FieldType)) ∈ TB := zTB 196 (by decide +kernel) (by decide +kernel)
theorem wd_197 : (Jvm.Cond.methodLink "FoxBurrows$Text" (3 : Nat) ({ cls := "java/lang/Object", name := "<init>", desc := "()V" } : Jvm.MethodName)) ∈ TB := zTB 197 (by decide +kernel) (by decide +kernel)
theorem wd_207 : (Jvm.Cond.arrayClass Jvm.ClassFile.FieldType.char) ∈ TB := zTB 207 (by decide +kernel) (by decide +kernel)
theorem wd_208 : (Jvm.Cond.classLink "FoxBurrows" (63 : Nat) "FoxBurrows$Reader") ∈ TB := zTB 208 (by decide +kernel) (by decide +kernel)
theorem wd_209 : (Jvm.Cond.instantiable "FoxBurrows$Reader" (5 : Nat)) ∈ TB := zTB 209 (by decide +kernel) (by decide +kernel)
theorem wd_210 : (Jvm.Cond.methodLinkNest "FoxBurrows" (65 : Nat) ({ cls := "FoxBurrows$Reader", name := "<init>", desc := "()V" } : Jvm.MethodName) "FoxBurrows") ∈ TN := zTN 210 (by decide +kernel) (by decide +kernel)
theorem wd_211 : (Jvm.Cond.instanceMethod ({ cls := "FoxBurrows$Reader", name := "<init>", desc := "()V" } : Jvm.MethodName)) ∈ TB := zTB 211 (by decide +kernel) (by decide +kernel)
theorem wd_212 : (Jvm.Cond.code ({ cls := "FoxBurrows$Reader", name := "<init>", desc := "()V" } : Jvm.MethodName) prog_5_method_1_code (1 : Nat) (Option.none : Option Jvm.ClassFile.FieldType)) ∈ TB := zTB 212 (by decide +kernel) (by decide +kernel)
theorem wd_213 : (Jvm.Cond.methodLink "FoxBurrows$Reader" (3 : Nat) ({ cls := "java/lang/Object", name := "<init>", desc := "()V" } : Jvm.MethodName)) ∈ TB := zTB 213 (by decide +kernel) (by decide +kernel)
theorem wd_234 : (Jvm.Cond.classLink "FoxBurrows" (70 : Nat) "FoxBurrows$Reason") ∈ TB := zTB 234 (by decide +kernel) (by decide +kernel)
theorem wd_235 : (Jvm.Cond.instantiable "FoxBurrows$Reason" (4 : Nat)) ∈ TB := zTB 235 (by decide +kernel) (by decide +kernel)
theorem wd_236 : (Jvm.Cond.methodLinkNest "FoxBurrows" (72 : Nat) ({ cls := "FoxBurrows$Reason", name := "<init>", desc := "()V" } : Jvm.MethodName) "FoxBurrows") ∈ TN := zTN 236 (by decide +kernel) (by decide +kernel)
theorem wd_237 : (Jvm.Cond.instanceMethod ({ cls := "FoxBurrows$Reason", name := "<init>", desc := "()V" } : Jvm.MethodName)) ∈ TB := zTB 237 (by decide +kernel) (by decide +kernel)
theorem wd_238 : (Jvm.Cond.code ({ cls := "FoxBurrows$Reason", name := "<init>", desc := "()V" } : Jvm.MethodName) prog_6_method_1_code (1 : Nat) (Option.none : Option Jvm.ClassFile.FieldType)) ∈ TB := zTB 238 (by decide +kernel) (by decide +kernel)
theorem wd_239 : (Jvm.Cond.methodLink "FoxBurrows$Reason" (1 : Nat) ({ cls := "java/lang/Object", name := "<init>", desc := "()V" } : Jvm.MethodName)) ∈ TB := zTB 239 (by decide +kernel) (by decide +kernel)
def ZF1 (g : GE) (b : Nat) (ad : Nat → Nat) : va_W := ((([(b, .inr (1, [.int 0, .int 0, .int 0, .int (1), .int 0, .ref (ad 0), .ref (ad 1), .ref (ad 2)]))] ++ [((ad 0), .inl (g.2.1 0, 16, .inl (fun _ => 0)))]) ++ [((ad 1), .inl (g.2.1 0, 16, .inl (fun _ => 0)))]) ++ [((ad 2), .inl (g.2.1 0, 8, .inl (fun _ => 0)))])
def rm_X1 : Room := { frames := 1, locals := 20, cells := 3, slots := 40 }
theorem ci_X1 : (yX1_init.cls ≠ "java/lang/invoke/MethodHandle" ∧ yX1_init.cls ≠ "java/lang/invoke/VarHandle" ∧ (parseMethodDescriptor yX1_init.desc).map (fun d => d.parameters.length) = some 0) := ⟨by decide +kernel, by decide +kernel, by decide +kernel⟩
theorem cc_X1 {l : Launch} {g : GE} (b : Nat) (w0 : va_W) : Met l yX1_init (Cond.code yX1_init cX1_init 1 none :: TB) rm_X1 (zKc g (w0 ++ [(b, .inr (1, [.int 0, .int 0, .int 0, .int 0, .int 0, .null, .null, .null]))]) [.ref b]) (zKq g (fun ad => w0 ++ ZF1 g b ad)) 3 40 (zA g) := by
  refine zKet (own := RX1) (by decide +kernel) rfl rfl (by decide) ?_
  intro p e s m args below meth c C hr hin
  refine zc_aload_n C dX1_init_0 rfl 0 rfl ?_
  refine zc_objInit C wd_55 wd_42 wd_43 dX1_init_1 (by decide) (by decide) (Nat.le_of_ble_eq_true rfl) ?_
  refine zc_aload_n C dX1_init_4 rfl 0 rfl ?_
  refine zc_iconst (v := 1) C dX1_init_5 (by decide +kernel) ?_
  refine zc_put (ws1 := [(b, .inr (1, [.int 0, .int 0, .int 0, .int (1), .int 0, .null, .null, .null]))]) (ty := tyX1 3) C iX1 tyX1 tyX1_ok nmX1 0 rfl rfl 3 (by decide) wd_62 rfl rfl (by decide +kernel) rfl rfl (Nat.le_of_ble_eq_true rfl) dX1_init_6 rfl ?_
  refine zc_aload_n C dX1_init_9 rfl 0 rfl ?_
  refine zc_bipush (v := 16) C dX1_init_10 (by decide +kernel) ?_
  refine zc_newarr_int (N := 16) C wd_91 (by decide) (by decide +kernel) (by decide) (by decide) (by decide) dX1_init_12 (fun a0 => ?_)
  refine zc_putF (ws1 := ([(b, .inr (1, [.int 0, .int 0, .int 0, .int (1), .int 0, .ref a0, .null, .null]))] ++ [(a0, .inl (g.2.1 0, 16, .inl (fun _ => 0)))])) (ty := tyX1 5) C iX1 tyX1 tyX1_ok nmX1 0 rfl rfl 5 (by decide) wd_68 rfl rfl hin rfl (by decide +kernel) rfl rfl (Nat.le_of_ble_eq_true rfl) dX1_init_14 rfl ?_
  refine zc_aload_n C dX1_init_17 rfl 0 rfl ?_
  refine zc_bipush (v := 16) C dX1_init_18 (by decide +kernel) ?_
  refine zc_newarr_int (N := 16) C wd_91 (by decide) (by decide +kernel) (by decide) (by decide) (by decide) dX1_init_20 (fun a1 => ?_)
  refine zc_putF (ws1 := (([(b, .inr (1, [.int 0, .int 0, .int 0, .int (1), .int 0, .ref a0, .ref a1, .null]))] ++ [(a0, .inl (g.2.1 0, 16, .inl (fun _ => 0)))]) ++ [(a1, .inl (g.2.1 0, 16, .inl (fun _ => 0)))])) (ty := tyX1 6) C iX1 tyX1 tyX1_ok nmX1 0 rfl rfl 6 (by decide) wd_70 rfl rfl hin rfl (by decide +kernel) rfl rfl (Nat.le_of_ble_eq_true rfl) dX1_init_22 rfl ?_
  refine zc_aload_n C dX1_init_25 rfl 0 rfl ?_
  refine zc_bipush (v := 8) C dX1_init_26 (by decide +kernel) ?_
  refine zc_newarr_int (N := 8) C wd_91 (by decide) (by decide +kernel) (by decide) (by decide) (by decide) dX1_init_28 (fun a2 => ?_)
  refine zc_putF (ws1 := ((([(b, .inr (1, [.int 0, .int 0, .int 0, .int (1), .int 0, .ref a0, .ref a1, .ref a2]))] ++ [(a0, .inl (g.2.1 0, 16, .inl (fun _ => 0)))]) ++ [(a1, .inl (g.2.1 0, 16, .inl (fun _ => 0)))]) ++ [(a2, .inl (g.2.1 0, 8, .inl (fun _ => 0)))])) (ty := tyX1 7) C iX1 tyX1 tyX1_ok nmX1 0 rfl rfl 7 (by decide) wd_72 rfl rfl hin rfl (by decide +kernel) rfl rfl (Nat.le_of_ble_eq_true rfl) dX1_init_30 rfl ?_
  exact zc_vret C hr dX1_init_33 (fun i => [a0, a1, a2].getD i 0) rfl
def ZF2 (g : GE) (b : Nat) (ad : Nat → Nat) : va_W := (([(b, .inr (2, [.int 0, .int 0, .ref (ad 0), .ref (ad 1)]))] ++ [((ad 0), .inl (g.2.1 0, 41, .inl (fun _ => 0)))]) ++ [((ad 1), .inl (g.2.1 0, 40, .inl (fun _ => 0)))])
def rm_X2 : Room := { frames := 1, locals := 20, cells := 2, slots := 81 }
theorem ci_X2 : (yX2_init.cls ≠ "java/lang/invoke/MethodHandle" ∧ yX2_init.cls ≠ "java/lang/invoke/VarHandle" ∧ (parseMethodDescriptor yX2_init.desc).map (fun d => d.parameters.length) = some 0) := ⟨by decide +kernel, by decide +kernel, by decide +kernel⟩
theorem cc_X2 {l : Launch} {g : GE} (b : Nat) (w0 : va_W) : Met l yX2_init (Cond.code yX2_init cX2_init 1 none :: TB) rm_X2 (zKc g (w0 ++ [(b, .inr (2, [.int 0, .int 0, .null, .null]))]) [.ref b]) (zKq g (fun ad => w0 ++ ZF2 g b ad)) 2 81 (zA g) := by
  refine zKet (own := RX2) (by decide +kernel) rfl rfl (by decide) ?_
  intro p e s m args below meth c C hr hin
  refine zc_aload_n C dX2_init_0 rfl 0 rfl ?_
  refine zc_objInit C wd_97 wd_42 wd_43 dX2_init_1 (by decide) (by decide) (Nat.le_of_ble_eq_true rfl) ?_
  refine zc_aload_n C dX2_init_4 rfl 0 rfl ?_
  refine zc_bipush (v := 41) C dX2_init_5 (by decide +kernel) ?_
  refine zc_newarr_int (N := 41) C wd_91 (by decide) (by decide +kernel) (by decide) (by decide) (by decide) dX2_init_7 (fun a0 => ?_)
  refine zc_putF (ws1 := ([(b, .inr (2, [.int 0, .int 0, .ref a0, .null]))] ++ [(a0, .inl (g.2.1 0, 41, .inl (fun _ => 0)))])) (ty := tyX2 2) C iX2 tyX2 tyX2_ok nmX2 0 rfl rfl 2 (by decide) wd_102 rfl rfl hin rfl (by decide +kernel) rfl rfl (Nat.le_of_ble_eq_true rfl) dX2_init_9 rfl ?_
  refine zc_aload_n C dX2_init_12 rfl 0 rfl ?_
  refine zc_bipush (v := 40) C dX2_init_13 (by decide +kernel) ?_
  refine zc_newarr_int (N := 40) C wd_91 (by decide) (by decide +kernel) (by decide) (by decide) (by decide) dX2_init_15 (fun a1 => ?_)
  refine zc_putF (ws1 := (([(b, .inr (2, [.int 0, .int 0, .ref a0, .ref a1]))] ++ [(a0, .inl (g.2.1 0, 41, .inl (fun _ => 0)))]) ++ [(a1, .inl (g.2.1 0, 40, .inl (fun _ => 0)))])) (ty := tyX2 3) C iX2 tyX2 tyX2_ok nmX2 0 rfl rfl 3 (by decide) wd_104 rfl rfl hin rfl (by decide +kernel) rfl rfl (Nat.le_of_ble_eq_true rfl) dX2_init_17 rfl ?_
  exact zc_vret C hr dX2_init_20 (fun i => [a0, a1].getD i 0) rfl
def ZF6 (g : GE) (b : Nat) (ad : Nat → Nat) : va_W := (([(b, .inr (6, [.ref (ad 0), .ref (ad 4), .int 0]))] ++ ZF1 g (ad 0) (fun i => ad (i + 1))) ++ ZF2 g (ad 4) (fun i => ad (i + 5)))
def rm_X6 : Room := { frames := 2, locals := 40, cells := 7, slots := 133 }
theorem ci_X6 : (yX6_init.cls ≠ "java/lang/invoke/MethodHandle" ∧ yX6_init.cls ≠ "java/lang/invoke/VarHandle" ∧ (parseMethodDescriptor yX6_init.desc).map (fun d => d.parameters.length) = some 0) := ⟨by decide +kernel, by decide +kernel, by decide +kernel⟩
theorem cc_X6 {l : Launch} {g : GE} (b : Nat) (w0 : va_W) : Met l yX6_init (Cond.code yX6_init cX6_init 1 none :: TB) rm_X6 (zKc g (w0 ++ [(b, .inr (6, [.null, .null, .int 0]))]) [.ref b]) (zKq g (fun ad => w0 ++ ZF6 g b ad)) 7 133 (zA g) := by
  refine zKet (own := RX6) (by decide +kernel) rfl rfl (by decide) ?_
  intro p e s m args below meth c C hr hin
  refine zc_aload_n C dX6_init_0 rfl 0 rfl ?_
  refine zc_objInit C wd_49 wd_42 wd_43 dX6_init_1 (by decide) (by decide) (Nat.le_of_ble_eq_true rfl) ?_
  refine zc_aload_n C dX6_init_4 rfl 0 rfl ?_
  refine zc_new (ci := 1) (fs := [.int 0, .int 0, .int 0, .int 0, .int 0, .null, .null, .null]) C iX1 tyX1 tyX1_ok wd_50 wd_51 wd_3 rfl (zFs (by rfl)) (by decide) (by decide) dX6_init_5 (fun a0 => ?_)
  refine zc_dup C dX6_init_8 rfl ?_
  refine zc_callN (ZF := ZF1 g) C (fun b v0 => cc_X1 b v0) wd_52 wd_53 wd_3 wd_54 rfl ci_X1 rfl rfl (by decide) (by decide) (Nat.le_of_ble_eq_true rfl) dX6_init_9 (fun d0 => ?_)
  refine zc_putF (ws1 := ([(b, .inr (6, [.ref a0, .null, .int 0]))] ++ ZF1 g a0 d0)) (ty := tyX6 0) C iX6 tyX6 tyX6_ok nmX6 0 rfl rfl 0 (by decide) wd_115 rfl rfl hin rfl (by decide +kernel) rfl rfl (Nat.le_of_ble_eq_true rfl) dX6_init_12 rfl ?_
  refine zc_aload_n C dX6_init_15 rfl 0 rfl ?_
  refine zc_new (ci := 2) (fs := [.int 0, .int 0, .null, .null]) C iX2 tyX2 tyX2_ok wd_92 wd_93 wd_4 rfl (zFs (by rfl)) (by decide) (by decide) dX6_init_16 (fun a1 => ?_)
  refine zc_dup C dX6_init_19 rfl ?_
  refine zc_callN (ZF := ZF2 g) C (fun b v0 => cc_X2 b v0) wd_94 wd_95 wd_4 wd_96 rfl ci_X2 rfl rfl (by decide) (by decide) (Nat.le_of_ble_eq_true rfl) dX6_init_20 (fun d1 => ?_)
  refine zc_putF (ws1 := (([(b, .inr (6, [.ref a0, .ref a1, .int 0]))] ++ ZF1 g a0 d0) ++ ZF2 g a1 d1)) (ty := tyX6 1) C iX6 tyX6 tyX6_ok nmX6 0 rfl rfl 1 (by decide) wd_117 rfl rfl hin rfl (by decide +kernel) rfl rfl (Nat.le_of_ble_eq_true rfl) dX6_init_23 rfl ?_
  exact zc_vret C hr dX6_init_26 (fun i => [a0, (d0 0), (d0 1), (d0 2), a1, (d1 0), (d1 1)].getD i 0) rfl
def ZF0 (g : GE) (b : Nat) (ad : Nat → Nat) : va_W := ((((((((([(b, .inr (0, [.ref (ad 0), .int 0, .int 0]))] ++ [((ad 0), .inl (g.2.1 4, 8, .inr (.inr (.inr (.inr (va_up (va_up (va_up (va_up (va_up (va_up (va_up (va_up (fun _ => none) 0 (some (ad 1))) 1 (some (ad 9))) 2 (some (ad 17))) 3 (some (ad 25))) 4 (some (ad 33))) 5 (some (ad 41))) 6 (some (ad 49))) 7 (some (ad 57))))))))]) ++ ZF6 g (ad 1) (fun i => ad (i + 2))) ++ ZF6 g (ad 9) (fun i => ad (i + 10))) ++ ZF6 g (ad 17) (fun i => ad (i + 18))) ++ ZF6 g (ad 25) (fun i => ad (i + 26))) ++ ZF6 g (ad 33) (fun i => ad (i + 34))) ++ ZF6 g (ad 41) (fun i => ad (i + 42))) ++ ZF6 g (ad 49) (fun i => ad (i + 50))) ++ ZF6 g (ad 57) (fun i => ad (i + 58)))
def rm_X0 : Room := { frames := 3, locals := 60, cells := 65, slots := 1096 }
theorem ci_X0 : (yX0_init.cls ≠ "java/lang/invoke/MethodHandle" ∧ yX0_init.cls ≠ "java/lang/invoke/VarHandle" ∧ (parseMethodDescriptor yX0_init.desc).map (fun d => d.parameters.length) = some 0) := ⟨by decide +kernel, by decide +kernel, by decide +kernel⟩
theorem cc_X0 {l : Launch} {g : GE} (b : Nat) (w0 : va_W) : Met l yX0_init (Cond.code yX0_init cX0_init 2 none :: TB) rm_X0 (zKc g (w0 ++ [(b, .inr (0, [.null, .int 0, .int 0]))]) [.ref b]) (zKq g (fun ad => w0 ++ ZF0 g b ad)) 65 1096 (zA g) := by
  refine zKet (own := RX0) (by decide +kernel) rfl rfl (by decide) ?_
  intro p e s m args below meth c C hr hin
  refine zc_aload_n C dX0_init_0 rfl 0 rfl ?_
  refine zc_objInit C wd_133 wd_42 wd_43 dX0_init_1 (by decide) (by decide) (Nat.le_of_ble_eq_true rfl) ?_
  refine zc_aload_n C dX0_init_4 rfl 0 rfl ?_
  refine zc_bipush (v := 8) C dX0_init_5 (by decide +kernel) ?_
  refine zc_anew (N := 8) C wd_134 (by decide) (by decide +kernel) (by decide) (by decide) (by decide) dX0_init_7 (fun a0 => ?_)
  refine zc_putF (ws1 := ([(b, .inr (0, [.ref a0, .int 0, .int 0]))] ++ [(a0, .inl (g.2.1 4, 8, .inr (.inr (.inr (.inr (fun _ => none))))))])) (ty := tyX0 0) C iX0 tyX0 tyX0_ok nmX0 0 rfl rfl 0 (by decide) wd_137 rfl rfl hin rfl (by decide +kernel) rfl rfl (Nat.le_of_ble_eq_true rfl) dX0_init_10 rfl ?_
  refine zc_iconst (v := 0) C dX0_init_13 (by decide +kernel) ?_
  refine zc_istore_n (lv' := [(1, .int 0), (0, .ref b)]) C dX0_init_14 rfl (by decide) rfl ?_
  refine zc_iload_n C dX0_init_15 rfl 0 rfl ?_
  refine zc_aload_n C dX0_init_16 rfl 1 rfl ?_
  refine zc_get (v := .ref a0) C iX0 0 rfl rfl 0 (by decide) wd_137 rfl rfl dX0_init_17 ?_
  refine zc_alen (ci0 := 4) (ty := (.object "FoxBurrows$State")) (v := 8) C 1 rfl rfl (show Int32.ofNat 8 = 8 by decide +kernel) dX0_init_20 ?_
  refine zc_icmp_ge (tgt := 43) C dX0_init_21 (by decide) (fun h => absurd h (by decide)) (fun _ => ?_)
  refine zc_aload_n C dX0_init_24 rfl 1 rfl ?_
  refine zc_get (v := .ref a0) C iX0 0 rfl rfl 0 (by decide) wd_137 rfl rfl dX0_init_25 ?_
  refine zc_iload_n C dX0_init_28 rfl 0 rfl ?_
  refine zc_new (ci := 6) (fs := [.null, .null, .int 0]) C iX6 tyX6 tyX6_ok wd_134 wd_45 wd_2 rfl (zFs (by rfl)) (by decide) (by decide) dX0_init_29 (fun a1 => ?_)
  refine zc_dup C dX0_init_32 rfl ?_
  refine zc_callN (ZF := ZF6 g) C (fun b v0 => cc_X6 b v0) wd_136 wd_47 wd_2 wd_48 rfl ci_X6 rfl rfl (by decide) (by decide) (Nat.le_of_ble_eq_true rfl) dX0_init_33 (fun d0 => ?_)
  refine zc_aast (ws1 := (([(b, .inr (0, [.ref a0, .int 0, .int 0]))] ++ [(a0, .inl (g.2.1 4, 8, .inr (.inr (.inr (.inr (va_up (fun _ => none) 0 (some a1)))))))]) ++ ZF6 g a1 d0)) (ci := 6) C 1 rfl 2 rfl rfl rfl (by unfold vp_in; decide +kernel) dX0_init_36 (by rfl) ?_
  refine zc_iinc (v := 1) (lv' := [(1, .int 1), (0, .ref b)]) C dX0_init_37 0 rfl (by decide +kernel) (by decide) rfl ?_
  refine zc_goto (tgt := 15) C dX0_init_40 (by decide) ?_
  refine zc_iload_n C dX0_init_15 rfl 0 rfl ?_
  refine zc_aload_n C dX0_init_16 rfl 1 rfl ?_
  refine zc_get (v := .ref a0) C iX0 0 rfl rfl 0 (by decide) wd_137 rfl rfl dX0_init_17 ?_
  refine zc_alen (ci0 := 4) (ty := (.object "FoxBurrows$State")) (v := 8) C 1 rfl rfl (show Int32.ofNat 8 = 8 by decide +kernel) dX0_init_20 ?_
  refine zc_icmp_ge (tgt := 43) C dX0_init_21 (by decide) (fun h => absurd h (by decide)) (fun _ => ?_)
  refine zc_aload_n C dX0_init_24 rfl 1 rfl ?_
  refine zc_get (v := .ref a0) C iX0 0 rfl rfl 0 (by decide) wd_137 rfl rfl dX0_init_25 ?_
  refine zc_iload_n C dX0_init_28 rfl 0 rfl ?_
  refine zc_new (ci := 6) (fs := [.null, .null, .int 0]) C iX6 tyX6 tyX6_ok wd_134 wd_45 wd_2 rfl (zFs (by rfl)) (by decide) (by decide) dX0_init_29 (fun a2 => ?_)
  refine zc_dup C dX0_init_32 rfl ?_
  refine zc_callN (ZF := ZF6 g) C (fun b v0 => cc_X6 b v0) wd_136 wd_47 wd_2 wd_48 rfl ci_X6 rfl rfl (by decide) (by decide) (Nat.le_of_ble_eq_true rfl) dX0_init_33 (fun d1 => ?_)
  refine zc_aast (ws1 := ((([(b, .inr (0, [.ref a0, .int 0, .int 0]))] ++ [(a0, .inl (g.2.1 4, 8, .inr (.inr (.inr (.inr (va_up (va_up (fun _ => none) 0 (some a1)) 1 (some a2)))))))]) ++ ZF6 g a1 d0) ++ ZF6 g a2 d1)) (ci := 6) C 1 rfl 10 rfl rfl rfl (by unfold vp_in; decide +kernel) dX0_init_36 (by rfl) ?_
  refine zc_iinc (v := 2) (lv' := [(1, .int 2), (0, .ref b)]) C dX0_init_37 0 rfl (by decide +kernel) (by decide) rfl ?_
  refine zc_goto (tgt := 15) C dX0_init_40 (by decide) ?_
  refine zc_iload_n C dX0_init_15 rfl 0 rfl ?_
  refine zc_aload_n C dX0_init_16 rfl 1 rfl ?_
  refine zc_get (v := .ref a0) C iX0 0 rfl rfl 0 (by decide) wd_137 rfl rfl dX0_init_17 ?_
  refine zc_alen (ci0 := 4) (ty := (.object "FoxBurrows$State")) (v := 8) C 1 rfl rfl (show Int32.ofNat 8 = 8 by decide +kernel) dX0_init_20 ?_
  refine zc_icmp_ge (tgt := 43) C dX0_init_21 (by decide) (fun h => absurd h (by decide)) (fun _ => ?_)
  refine zc_aload_n C dX0_init_24 rfl 1 rfl ?_
  refine zc_get (v := .ref a0) C iX0 0 rfl rfl 0 (by decide) wd_137 rfl rfl dX0_init_25 ?_
  refine zc_iload_n C dX0_init_28 rfl 0 rfl ?_
  refine zc_new (ci := 6) (fs := [.null, .null, .int 0]) C iX6 tyX6 tyX6_ok wd_134 wd_45 wd_2 rfl (zFs (by rfl)) (by decide) (by decide) dX0_init_29 (fun a3 => ?_)
  refine zc_dup C dX0_init_32 rfl ?_
  refine zc_callN (ZF := ZF6 g) C (fun b v0 => cc_X6 b v0) wd_136 wd_47 wd_2 wd_48 rfl ci_X6 rfl rfl (by decide) (by decide) (Nat.le_of_ble_eq_true rfl) dX0_init_33 (fun d2 => ?_)
  refine zc_aast (ws1 := (((([(b, .inr (0, [.ref a0, .int 0, .int 0]))] ++ [(a0, .inl (g.2.1 4, 8, .inr (.inr (.inr (.inr (va_up (va_up (va_up (fun _ => none) 0 (some a1)) 1 (some a2)) 2 (some a3)))))))]) ++ ZF6 g a1 d0) ++ ZF6 g a2 d1) ++ ZF6 g a3 d2)) (ci := 6) C 1 rfl 18 rfl rfl rfl (by unfold vp_in; decide +kernel) dX0_init_36 (by rfl) ?_
  refine zc_iinc (v := 3) (lv' := [(1, .int 3), (0, .ref b)]) C dX0_init_37 0 rfl (by decide +kernel) (by decide) rfl ?_
  refine zc_goto (tgt := 15) C dX0_init_40 (by decide) ?_
  refine zc_iload_n C dX0_init_15 rfl 0 rfl ?_
  refine zc_aload_n C dX0_init_16 rfl 1 rfl ?_
  refine zc_get (v := .ref a0) C iX0 0 rfl rfl 0 (by decide) wd_137 rfl rfl dX0_init_17 ?_
  refine zc_alen (ci0 := 4) (ty := (.object "FoxBurrows$State")) (v := 8) C 1 rfl rfl (show Int32.ofNat 8 = 8 by decide +kernel) dX0_init_20 ?_
  refine zc_icmp_ge (tgt := 43) C dX0_init_21 (by decide) (fun h => absurd h (by decide)) (fun _ => ?_)
  refine zc_aload_n C dX0_init_24 rfl 1 rfl ?_
  refine zc_get (v := .ref a0) C iX0 0 rfl rfl 0 (by decide) wd_137 rfl rfl dX0_init_25 ?_
  refine zc_iload_n C dX0_init_28 rfl 0 rfl ?_
  refine zc_new (ci := 6) (fs := [.null, .null, .int 0]) C iX6 tyX6 tyX6_ok wd_134 wd_45 wd_2 rfl (zFs (by rfl)) (by decide) (by decide) dX0_init_29 (fun a4 => ?_)
  refine zc_dup C dX0_init_32 rfl ?_
  refine zc_callN (ZF := ZF6 g) C (fun b v0 => cc_X6 b v0) wd_136 wd_47 wd_2 wd_48 rfl ci_X6 rfl rfl (by decide) (by decide) (Nat.le_of_ble_eq_true rfl) dX0_init_33 (fun d3 => ?_)
  refine zc_aast (ws1 := ((((([(b, .inr (0, [.ref a0, .int 0, .int 0]))] ++ [(a0, .inl (g.2.1 4, 8, .inr (.inr (.inr (.inr (va_up (va_up (va_up (va_up (fun _ => none) 0 (some a1)) 1 (some a2)) 2 (some a3)) 3 (some a4)))))))]) ++ ZF6 g a1 d0) ++ ZF6 g a2 d1) ++ ZF6 g a3 d2) ++ ZF6 g a4 d3)) (ci := 6) C 1 rfl 26 rfl rfl rfl (by unfold vp_in; decide +kernel) dX0_init_36 (by rfl) ?_
  refine zc_iinc (v := 4) (lv' := [(1, .int 4), (0, .ref b)]) C dX0_init_37 0 rfl (by decide +kernel) (by decide) rfl ?_
  refine zc_goto (tgt := 15) C dX0_init_40 (by decide) ?_
  refine zc_iload_n C dX0_init_15 rfl 0 rfl ?_
  refine zc_aload_n C dX0_init_16 rfl 1 rfl ?_
  refine zc_get (v := .ref a0) C iX0 0 rfl rfl 0 (by decide) wd_137 rfl rfl dX0_init_17 ?_
  refine zc_alen (ci0 := 4) (ty := (.object "FoxBurrows$State")) (v := 8) C 1 rfl rfl (show Int32.ofNat 8 = 8 by decide +kernel) dX0_init_20 ?_
  refine zc_icmp_ge (tgt := 43) C dX0_init_21 (by decide) (fun h => absurd h (by decide)) (fun _ => ?_)
  refine zc_aload_n C dX0_init_24 rfl 1 rfl ?_
  refine zc_get (v := .ref a0) C iX0 0 rfl rfl 0 (by decide) wd_137 rfl rfl dX0_init_25 ?_
  refine zc_iload_n C dX0_init_28 rfl 0 rfl ?_
  refine zc_new (ci := 6) (fs := [.null, .null, .int 0]) C iX6 tyX6 tyX6_ok wd_134 wd_45 wd_2 rfl (zFs (by rfl)) (by decide) (by decide) dX0_init_29 (fun a5 => ?_)
  refine zc_dup C dX0_init_32 rfl ?_
  refine zc_callN (ZF := ZF6 g) C (fun b v0 => cc_X6 b v0) wd_136 wd_47 wd_2 wd_48 rfl ci_X6 rfl rfl (by decide) (by decide) (Nat.le_of_ble_eq_true rfl) dX0_init_33 (fun d4 => ?_)
  refine zc_aast (ws1 := (((((([(b, .inr (0, [.ref a0, .int 0, .int 0]))] ++ [(a0, .inl (g.2.1 4, 8, .inr (.inr (.inr (.inr (va_up (va_up (va_up (va_up (va_up (fun _ => none) 0 (some a1)) 1 (some a2)) 2 (some a3)) 3 (some a4)) 4 (some a5)))))))]) ++ ZF6 g a1 d0) ++ ZF6 g a2 d1) ++ ZF6 g a3 d2) ++ ZF6 g a4 d3) ++ ZF6 g a5 d4)) (ci := 6) C 1 rfl 34 rfl rfl rfl (by unfold vp_in; decide +kernel) dX0_init_36 (by rfl) ?_
  refine zc_iinc (v := 5) (lv' := [(1, .int 5), (0, .ref b)]) C dX0_init_37 0 rfl (by decide +kernel) (by decide) rfl ?_
  refine zc_goto (tgt := 15) C dX0_init_40 (by decide) ?_
  refine zc_iload_n C dX0_init_15 rfl 0 rfl ?_
  refine zc_aload_n C dX0_init_16 rfl 1 rfl ?_
  refine zc_get (v := .ref a0) C iX0 0 rfl rfl 0 (by decide) wd_137 rfl rfl dX0_init_17 ?_
  refine zc_alen (ci0 := 4) (ty := (.object "FoxBurrows$State")) (v := 8) C 1 rfl rfl (show Int32.ofNat 8 = 8 by decide +kernel) dX0_init_20 ?_
  refine zc_icmp_ge (tgt := 43) C dX0_init_21 (by decide) (fun h => absurd h (by decide)) (fun _ => ?_)
  refine zc_aload_n C dX0_init_24 rfl 1 rfl ?_
  refine zc_get (v := .ref a0) C iX0 0 rfl rfl 0 (by decide) wd_137 rfl rfl dX0_init_25 ?_
  refine zc_iload_n C dX0_init_28 rfl 0 rfl ?_
  refine zc_new (ci := 6) (fs := [.null, .null, .int 0]) C iX6 tyX6 tyX6_ok wd_134 wd_45 wd_2 rfl (zFs (by rfl)) (by decide) (by decide) dX0_init_29 (fun a6 => ?_)
  refine zc_dup C dX0_init_32 rfl ?_
  refine zc_callN (ZF := ZF6 g) C (fun b v0 => cc_X6 b v0) wd_136 wd_47 wd_2 wd_48 rfl ci_X6 rfl rfl (by decide) (by decide) (Nat.le_of_ble_eq_true rfl) dX0_init_33 (fun d5 => ?_)
  refine zc_aast (ws1 := ((((((([(b, .inr (0, [.ref a0, .int 0, .int 0]))] ++ [(a0, .inl (g.2.1 4, 8, .inr (.inr (.inr (.inr (va_up (va_up (va_up (va_up (va_up (va_up (fun _ => none) 0 (some a1)) 1 (some a2)) 2 (some a3)) 3 (some a4)) 4 (some a5)) 5 (some a6)))))))]) ++ ZF6 g a1 d0) ++ ZF6 g a2 d1) ++ ZF6 g a3 d2) ++ ZF6 g a4 d3) ++ ZF6 g a5 d4) ++ ZF6 g a6 d5)) (ci := 6) C 1 rfl 42 rfl rfl rfl (by unfold vp_in; decide +kernel) dX0_init_36 (by rfl) ?_
  refine zc_iinc (v := 6) (lv' := [(1, .int 6), (0, .ref b)]) C dX0_init_37 0 rfl (by decide +kernel) (by decide) rfl ?_
  refine zc_goto (tgt := 15) C dX0_init_40 (by decide) ?_
  refine zc_iload_n C dX0_init_15 rfl 0 rfl ?_
  refine zc_aload_n C dX0_init_16 rfl 1 rfl ?_
  refine zc_get (v := .ref a0) C iX0 0 rfl rfl 0 (by decide) wd_137 rfl rfl dX0_init_17 ?_
  refine zc_alen (ci0 := 4) (ty := (.object "FoxBurrows$State")) (v := 8) C 1 rfl rfl (show Int32.ofNat 8 = 8 by decide +kernel) dX0_init_20 ?_
  refine zc_icmp_ge (tgt := 43) C dX0_init_21 (by decide) (fun h => absurd h (by decide)) (fun _ => ?_)
  refine zc_aload_n C dX0_init_24 rfl 1 rfl ?_
  refine zc_get (v := .ref a0) C iX0 0 rfl rfl 0 (by decide) wd_137 rfl rfl dX0_init_25 ?_
  refine zc_iload_n C dX0_init_28 rfl 0 rfl ?_
  refine zc_new (ci := 6) (fs := [.null, .null, .int 0]) C iX6 tyX6 tyX6_ok wd_134 wd_45 wd_2 rfl (zFs (by rfl)) (by decide) (by decide) dX0_init_29 (fun a7 => ?_)
  refine zc_dup C dX0_init_32 rfl ?_
  refine zc_callN (ZF := ZF6 g) C (fun b v0 => cc_X6 b v0) wd_136 wd_47 wd_2 wd_48 rfl ci_X6 rfl rfl (by decide) (by decide) (Nat.le_of_ble_eq_true rfl) dX0_init_33 (fun d6 => ?_)
  refine zc_aast (ws1 := (((((((([(b, .inr (0, [.ref a0, .int 0, .int 0]))] ++ [(a0, .inl (g.2.1 4, 8, .inr (.inr (.inr (.inr (va_up (va_up (va_up (va_up (va_up (va_up (va_up (fun _ => none) 0 (some a1)) 1 (some a2)) 2 (some a3)) 3 (some a4)) 4 (some a5)) 5 (some a6)) 6 (some a7)))))))]) ++ ZF6 g a1 d0) ++ ZF6 g a2 d1) ++ ZF6 g a3 d2) ++ ZF6 g a4 d3) ++ ZF6 g a5 d4) ++ ZF6 g a6 d5) ++ ZF6 g a7 d6)) (ci := 6) C 1 rfl 50 rfl rfl rfl (by unfold vp_in; decide +kernel) dX0_init_36 (by rfl) ?_
  refine zc_iinc (v := 7) (lv' := [(1, .int 7), (0, .ref b)]) C dX0_init_37 0 rfl (by decide +kernel) (by decide) rfl ?_
  refine zc_goto (tgt := 15) C dX0_init_40 (by decide) ?_
  refine zc_iload_n C dX0_init_15 rfl 0 rfl ?_
  refine zc_aload_n C dX0_init_16 rfl 1 rfl ?_
  refine zc_get (v := .ref a0) C iX0 0 rfl rfl 0 (by decide) wd_137 rfl rfl dX0_init_17 ?_
  refine zc_alen (ci0 := 4) (ty := (.object "FoxBurrows$State")) (v := 8) C 1 rfl rfl (show Int32.ofNat 8 = 8 by decide +kernel) dX0_init_20 ?_
  refine zc_icmp_ge (tgt := 43) C dX0_init_21 (by decide) (fun h => absurd h (by decide)) (fun _ => ?_)
  refine zc_aload_n C dX0_init_24 rfl 1 rfl ?_
  refine zc_get (v := .ref a0) C iX0 0 rfl rfl 0 (by decide) wd_137 rfl rfl dX0_init_25 ?_
  refine zc_iload_n C dX0_init_28 rfl 0 rfl ?_
  refine zc_new (ci := 6) (fs := [.null, .null, .int 0]) C iX6 tyX6 tyX6_ok wd_134 wd_45 wd_2 rfl (zFs (by rfl)) (by decide) (by decide) dX0_init_29 (fun a8 => ?_)
  refine zc_dup C dX0_init_32 rfl ?_
  refine zc_callN (ZF := ZF6 g) C (fun b v0 => cc_X6 b v0) wd_136 wd_47 wd_2 wd_48 rfl ci_X6 rfl rfl (by decide) (by decide) (Nat.le_of_ble_eq_true rfl) dX0_init_33 (fun d7 => ?_)
  refine zc_aast (ws1 := ((((((((([(b, .inr (0, [.ref a0, .int 0, .int 0]))] ++ [(a0, .inl (g.2.1 4, 8, .inr (.inr (.inr (.inr (va_up (va_up (va_up (va_up (va_up (va_up (va_up (va_up (fun _ => none) 0 (some a1)) 1 (some a2)) 2 (some a3)) 3 (some a4)) 4 (some a5)) 5 (some a6)) 6 (some a7)) 7 (some a8)))))))]) ++ ZF6 g a1 d0) ++ ZF6 g a2 d1) ++ ZF6 g a3 d2) ++ ZF6 g a4 d3) ++ ZF6 g a5 d4) ++ ZF6 g a6 d5) ++ ZF6 g a7 d6) ++ ZF6 g a8 d7)) (ci := 6) C 1 rfl 58 rfl rfl rfl (by unfold vp_in; decide +kernel) dX0_init_36 (by rfl) ?_
  refine zc_iinc (v := 8) (lv' := [(1, .int 8), (0, .ref b)]) C dX0_init_37 0 rfl (by decide +kernel) (by decide) rfl ?_
  refine zc_goto (tgt := 15) C dX0_init_40 (by decide) ?_
  refine zc_iload_n C dX0_init_15 rfl 0 rfl ?_
  refine zc_aload_n C dX0_init_16 rfl 1 rfl ?_
  refine zc_get (v := .ref a0) C iX0 0 rfl rfl 0 (by decide) wd_137 rfl rfl dX0_init_17 ?_
  refine zc_alen (ci0 := 4) (ty := (.object "FoxBurrows$State")) (v := 8) C 1 rfl rfl (show Int32.ofNat 8 = 8 by decide +kernel) dX0_init_20 ?_
  refine zc_icmp_ge (tgt := 43) C dX0_init_21 (by decide) (fun _ => ?_) (fun h => absurd (by decide) h)
  exact zc_vret C hr dX0_init_43 (fun i => [a0, a1, (d0 0), (d0 1), (d0 2), (d0 3), (d0 4), (d0 5), (d0 6), a2, (d1 0), (d1 1), (d1 2), (d1 3), (d1 4), (d1 5), (d1 6), a3, (d2 0), (d2 1), (d2 2), (d2 3), (d2 4), (d2 5), (d2 6), a4, (d3 0), (d3 1), (d3 2), (d3 3), (d3 4), (d3 5), (d3 6), a5, (d4 0), (d4 1), (d4 2), (d4 3), (d4 4), (d4 5), (d4 6), a6, (d5 0), (d5 1), (d5 2), (d5 3), (d5 4), (d5 5), (d5 6), a7, (d6 0), (d6 1), (d6 2), (d6 3), (d6 4), (d6 5), (d6 6), a8, (d7 0), (d7 1), (d7 2), (d7 3), (d7 4), (d7 5), (d7 6)].getD i 0) rfl
def ZF7 (g : GE) (b : Nat) (ad : Nat → Nat) : va_W := (((([(b, .inr (7, [.int 0, .int (-1), .ref (ad 0), .ref (ad 1), .ref (ad 2), .ref (ad 3)]))] ++ [((ad 0), .inl (g.2.1 0, 336, .inl (fun _ => 0)))]) ++ [((ad 1), .inl (g.2.1 0, 336, .inl (fun _ => 0)))]) ++ [((ad 2), .inl (g.2.1 0, 1296, .inl (fun _ => 0)))]) ++ [((ad 3), .inl (g.2.1 0, 1296, .inl (fun _ => 0)))])
def rm_X7 : Room := { frames := 1, locals := 20, cells := 4, slots := 3264 }
theorem ci_X7 : (yX7_init.cls ≠ "java/lang/invoke/MethodHandle" ∧ yX7_init.cls ≠ "java/lang/invoke/VarHandle" ∧ (parseMethodDescriptor yX7_init.desc).map (fun d => d.parameters.length) = some 0) := ⟨by decide +kernel, by decide +kernel, by decide +kernel⟩
theorem cc_X7 {l : Launch} {g : GE} (b : Nat) (w0 : va_W) : Met l yX7_init (Cond.code yX7_init cX7_init 1 none :: TB) rm_X7 (zKc g (w0 ++ [(b, .inr (7, [.int 0, .int 0, .null, .null, .null, .null]))]) [.ref b]) (zKq g (fun ad => w0 ++ ZF7 g b ad)) 4 3264 (zA g) := by
  refine zKet (own := RX7) (by decide +kernel) rfl rfl (by decide) ?_
  intro p e s m args below meth c C hr hin
  refine zc_aload_n C dX7_init_0 rfl 0 rfl ?_
  refine zc_objInit C wd_155 wd_42 wd_43 dX7_init_1 (by decide) (by decide) (Nat.le_of_ble_eq_true rfl) ?_
  refine zc_aload_n C dX7_init_4 rfl 0 rfl ?_
  refine zc_iconst (v := -1) C dX7_init_5 (by decide +kernel) ?_
  refine zc_put (ws1 := [(b, .inr (7, [.int 0, .int (-1), .null, .null, .null, .null]))]) (ty := tyX7 1) C iX7 tyX7 tyX7_ok nmX7 0 rfl rfl 1 (by decide) wd_158 rfl rfl (by decide +kernel) rfl rfl (Nat.le_of_ble_eq_true rfl) dX7_init_6 rfl ?_
  refine zc_aload_n C dX7_init_9 rfl 0 rfl ?_
  refine zc_sipush (v := 336) C dX7_init_10 (by decide +kernel) ?_
  refine zc_newarr_int (N := 336) C wd_91 (by decide) (by decide +kernel) (by decide) (by decide) (by decide) dX7_init_13 (fun a0 => ?_)
  refine zc_putF (ws1 := ([(b, .inr (7, [.int 0, .int (-1), .ref a0, .null, .null, .null]))] ++ [(a0, .inl (g.2.1 0, 336, .inl (fun _ => 0)))])) (ty := tyX7 2) C iX7 tyX7 tyX7_ok nmX7 0 rfl rfl 2 (by decide) wd_159 rfl rfl hin rfl (by decide +kernel) rfl rfl (Nat.le_of_ble_eq_true rfl) dX7_init_15 rfl ?_
  refine zc_aload_n C dX7_init_18 rfl 0 rfl ?_
  refine zc_sipush (v := 336) C dX7_init_19 (by decide +kernel) ?_
  refine zc_newarr_int (N := 336) C wd_91 (by decide) (by decide +kernel) (by decide) (by decide) (by decide) dX7_init_22 (fun a1 => ?_)
  refine zc_putF (ws1 := (([(b, .inr (7, [.int 0, .int (-1), .ref a0, .ref a1, .null, .null]))] ++ [(a0, .inl (g.2.1 0, 336, .inl (fun _ => 0)))]) ++ [(a1, .inl (g.2.1 0, 336, .inl (fun _ => 0)))])) (ty := tyX7 3) C iX7 tyX7 tyX7_ok nmX7 0 rfl rfl 3 (by decide) wd_160 rfl rfl hin rfl (by decide +kernel) rfl rfl (Nat.le_of_ble_eq_true rfl) dX7_init_24 rfl ?_
  refine zc_aload_n C dX7_init_27 rfl 0 rfl ?_
  refine zc_sipush (v := 1296) C dX7_init_28 (by decide +kernel) ?_
  refine zc_newarr_int (N := 1296) C wd_91 (by decide) (by decide +kernel) (by decide) (by decide) (by decide) dX7_init_31 (fun a2 => ?_)
  refine zc_putF (ws1 := ((([(b, .inr (7, [.int 0, .int (-1), .ref a0, .ref a1, .ref a2, .null]))] ++ [(a0, .inl (g.2.1 0, 336, .inl (fun _ => 0)))]) ++ [(a1, .inl (g.2.1 0, 336, .inl (fun _ => 0)))]) ++ [(a2, .inl (g.2.1 0, 1296, .inl (fun _ => 0)))])) (ty := tyX7 4) C iX7 tyX7 tyX7_ok nmX7 0 rfl rfl 4 (by decide) wd_161 rfl rfl hin rfl (by decide +kernel) rfl rfl (Nat.le_of_ble_eq_true rfl) dX7_init_33 rfl ?_
  refine zc_aload_n C dX7_init_36 rfl 0 rfl ?_
  refine zc_sipush (v := 1296) C dX7_init_37 (by decide +kernel) ?_
  refine zc_newarr_int (N := 1296) C wd_91 (by decide) (by decide +kernel) (by decide) (by decide) (by decide) dX7_init_40 (fun a3 => ?_)
  refine zc_putF (ws1 := (((([(b, .inr (7, [.int 0, .int (-1), .ref a0, .ref a1, .ref a2, .ref a3]))] ++ [(a0, .inl (g.2.1 0, 336, .inl (fun _ => 0)))]) ++ [(a1, .inl (g.2.1 0, 336, .inl (fun _ => 0)))]) ++ [(a2, .inl (g.2.1 0, 1296, .inl (fun _ => 0)))]) ++ [(a3, .inl (g.2.1 0, 1296, .inl (fun _ => 0)))])) (ty := tyX7 5) C iX7 tyX7 tyX7_ok nmX7 0 rfl rfl 5 (by decide) wd_162 rfl rfl hin rfl (by decide +kernel) rfl rfl (Nat.le_of_ble_eq_true rfl) dX7_init_42 rfl ?_
  exact zc_vret C hr dX7_init_45 (fun i => [a0, a1, a2, a3].getD i 0) rfl
def ZF5 (g : GE) (b : Nat) (ad : Nat → Nat) : va_W := (([(b, .inr (5, [.int (-1), .ref (ad 0), .ref (ad 1)]))] ++ [((ad 0), .inl (g.2.1 0, 336, .inl (fun _ => 0)))]) ++ [((ad 1), .inl (g.2.1 0, 1296, .inl (fun _ => 0)))])
def rm_X5 : Room := { frames := 1, locals := 20, cells := 2, slots := 1632 }
theorem ci_X5 : (yX5_init.cls ≠ "java/lang/invoke/MethodHandle" ∧ yX5_init.cls ≠ "java/lang/invoke/VarHandle" ∧ (parseMethodDescriptor yX5_init.desc).map (fun d => d.parameters.length) = some 0) := ⟨by decide +kernel, by decide +kernel, by decide +kernel⟩
theorem cc_X5 {l : Launch} {g : GE} (b : Nat) (w0 : va_W) : Met l yX5_init (Cond.code yX5_init cX5_init 1 none :: TB) rm_X5 (zKc g (w0 ++ [(b, .inr (5, [.int 0, .null, .null]))]) [.ref b]) (zKq g (fun ad => w0 ++ ZF5 g b ad)) 2 1632 (zA g) := by
  refine zKet (own := RX5) (by decide +kernel) rfl rfl (by decide) ?_
  intro p e s m args below meth c C hr hin
  refine zc_aload_n C dX5_init_0 rfl 0 rfl ?_
  refine zc_objInit C wd_181 wd_42 wd_43 dX5_init_1 (by decide) (by decide) (Nat.le_of_ble_eq_true rfl) ?_
  refine zc_aload_n C dX5_init_4 rfl 0 rfl ?_
  refine zc_iconst (v := -1) C dX5_init_5 (by decide +kernel) ?_
  refine zc_put (ws1 := [(b, .inr (5, [.int (-1), .null, .null]))]) (ty := tyX5 0) C iX5 tyX5 tyX5_ok nmX5 0 rfl rfl 0 (by decide) wd_182 rfl rfl (by decide +kernel) rfl rfl (Nat.le_of_ble_eq_true rfl) dX5_init_6 rfl ?_
  refine zc_aload_n C dX5_init_9 rfl 0 rfl ?_
  refine zc_sipush (v := 336) C dX5_init_10 (by decide +kernel) ?_
  refine zc_newarr_int (N := 336) C wd_91 (by decide) (by decide +kernel) (by decide) (by decide) (by decide) dX5_init_13 (fun a0 => ?_)
  refine zc_putF (ws1 := ([(b, .inr (5, [.int (-1), .ref a0, .null]))] ++ [(a0, .inl (g.2.1 0, 336, .inl (fun _ => 0)))])) (ty := tyX5 1) C iX5 tyX5 tyX5_ok nmX5 0 rfl rfl 1 (by decide) wd_183 rfl rfl hin rfl (by decide +kernel) rfl rfl (Nat.le_of_ble_eq_true rfl) dX5_init_15 rfl ?_
  refine zc_aload_n C dX5_init_18 rfl 0 rfl ?_
  refine zc_sipush (v := 1296) C dX5_init_19 (by decide +kernel) ?_
  refine zc_newarr_int (N := 1296) C wd_91 (by decide) (by decide +kernel) (by decide) (by decide) (by decide) dX5_init_22 (fun a1 => ?_)
  refine zc_putF (ws1 := (([(b, .inr (5, [.int (-1), .ref a0, .ref a1]))] ++ [(a0, .inl (g.2.1 0, 336, .inl (fun _ => 0)))]) ++ [(a1, .inl (g.2.1 0, 1296, .inl (fun _ => 0)))])) (ty := tyX5 2) C iX5 tyX5 tyX5_ok nmX5 0 rfl rfl 2 (by decide) wd_184 rfl rfl hin rfl (by decide +kernel) rfl rfl (Nat.le_of_ble_eq_true rfl) dX5_init_24 rfl ?_
  exact zc_vret C hr dX5_init_27 (fun i => [a0, a1].getD i 0) rfl
def ZF8 (g : GE) (b : Nat) (ad : Nat → Nat) : va_W := ([(b, .inr (8, [.int 0, .ref (ad 0)]))] ++ [((ad 0), .inl (g.2.1 1, 160, .inl (fun _ => 0)))])
def rm_X8 : Room := { frames := 1, locals := 20, cells := 1, slots := 160 }
theorem ci_X8 : (yX8_init.cls ≠ "java/lang/invoke/MethodHandle" ∧ yX8_init.cls ≠ "java/lang/invoke/VarHandle" ∧ (parseMethodDescriptor yX8_init.desc).map (fun d => d.parameters.length) = some 0) := ⟨by decide +kernel, by decide +kernel, by decide +kernel⟩
theorem cc_X8 {l : Launch} {g : GE} (b : Nat) (w0 : va_W) : Met l yX8_init (Cond.code yX8_init cX8_init 1 none :: TB) rm_X8 (zKc g (w0 ++ [(b, .inr (8, [.int 0, .null]))]) [.ref b]) (zKq g (fun ad => w0 ++ ZF8 g b ad)) 1 160 (zA g) := by
  refine zKet (own := RX8) (by decide +kernel) rfl rfl (by decide) ?_
  intro p e s m args below meth c C hr hin
  refine zc_aload_n C dX8_init_0 rfl 0 rfl ?_
  refine zc_objInit C wd_197 wd_42 wd_43 dX8_init_1 (by decide) (by decide) (Nat.le_of_ble_eq_true rfl) ?_
  refine zc_aload_n C dX8_init_4 rfl 0 rfl ?_
  refine zc_sipush (v := 160) C dX8_init_5 (by decide +kernel) ?_
  refine zc_newarr_char (N := 160) C wd_207 (by decide) (by decide +kernel) (by decide) (by decide) (by decide) dX8_init_8 (fun a0 => ?_)
  refine zc_putF (ws1 := ([(b, .inr (8, [.int 0, .ref a0]))] ++ [(a0, .inl (g.2.1 1, 160, .inl (fun _ => 0)))])) (ty := tyX8 1) C iX8 tyX8 tyX8_ok nmX8 0 rfl rfl 1 (by decide) wd_201 rfl rfl hin rfl (by decide +kernel) rfl rfl (Nat.le_of_ble_eq_true rfl) dX8_init_10 rfl ?_
  exact zc_vret C hr dX8_init_13 (fun i => [a0].getD i 0) rfl
def ZF3 (g : GE) (b : Nat) (ad : Nat → Nat) : va_W := ((([(b, .inr (3, [.int 0, .ref (ad 0), .ref (ad 1), .ref (ad 2), .int 0]))] ++ [((ad 0), .inl (g.2.1 0, 30, .inl (fun _ => 0)))]) ++ [((ad 1), .inl (g.2.1 0, 30, .inl (fun _ => 0)))]) ++ [((ad 2), .inl (g.2.1 0, 30, .inl (fun _ => 0)))])
def rm_X3 : Room := { frames := 1, locals := 20, cells := 3, slots := 90 }
theorem ci_X3 : (yX3_init.cls ≠ "java/lang/invoke/MethodHandle" ∧ yX3_init.cls ≠ "java/lang/invoke/VarHandle" ∧ (parseMethodDescriptor yX3_init.desc).map (fun d => d.parameters.length) = some 0) := ⟨by decide +kernel, by decide +kernel, by decide +kernel⟩
theorem cc_X3 {l : Launch} {g : GE} (b : Nat) (w0 : va_W) : Met l yX3_init (Cond.code yX3_init cX3_init 1 none :: TB) rm_X3 (zKc g (w0 ++ [(b, .inr (3, [.int 0, .null, .null, .null, .int 0]))]) [.ref b]) (zKq g (fun ad => w0 ++ ZF3 g b ad)) 3 90 (zA g) := by
  refine zKet (own := RX3) (by decide +kernel) rfl rfl (by decide) ?_
  intro p e s m args below meth c C hr hin
  refine zc_aload_n C dX3_init_0 rfl 0 rfl ?_
  refine zc_objInit C wd_213 wd_42 wd_43 dX3_init_1 (by decide) (by decide) (Nat.le_of_ble_eq_true rfl) ?_
  refine zc_aload_n C dX3_init_4 rfl 0 rfl ?_
  refine zc_bipush (v := 30) C dX3_init_5 (by decide +kernel) ?_
  refine zc_newarr_int (N := 30) C wd_91 (by decide) (by decide +kernel) (by decide) (by decide) (by decide) dX3_init_7 (fun a0 => ?_)
  refine zc_putF (ws1 := ([(b, .inr (3, [.int 0, .ref a0, .null, .null, .int 0]))] ++ [(a0, .inl (g.2.1 0, 30, .inl (fun _ => 0)))])) (ty := tyX3 1) C iX3 tyX3 tyX3_ok nmX3 0 rfl rfl 1 (by decide) wd_216 rfl rfl hin rfl (by decide +kernel) rfl rfl (Nat.le_of_ble_eq_true rfl) dX3_init_9 rfl ?_
  refine zc_aload_n C dX3_init_12 rfl 0 rfl ?_
  refine zc_bipush (v := 30) C dX3_init_13 (by decide +kernel) ?_
  refine zc_newarr_int (N := 30) C wd_91 (by decide) (by decide +kernel) (by decide) (by decide) (by decide) dX3_init_15 (fun a1 => ?_)
  refine zc_putF (ws1 := (([(b, .inr (3, [.int 0, .ref a0, .ref a1, .null, .int 0]))] ++ [(a0, .inl (g.2.1 0, 30, .inl (fun _ => 0)))]) ++ [(a1, .inl (g.2.1 0, 30, .inl (fun _ => 0)))])) (ty := tyX3 2) C iX3 tyX3 tyX3_ok nmX3 0 rfl rfl 2 (by decide) wd_218 rfl rfl hin rfl (by decide +kernel) rfl rfl (Nat.le_of_ble_eq_true rfl) dX3_init_17 rfl ?_
  refine zc_aload_n C dX3_init_20 rfl 0 rfl ?_
  refine zc_bipush (v := 30) C dX3_init_21 (by decide +kernel) ?_
  refine zc_newarr_int (N := 30) C wd_91 (by decide) (by decide +kernel) (by decide) (by decide) (by decide) dX3_init_23 (fun a2 => ?_)
  refine zc_putF (ws1 := ((([(b, .inr (3, [.int 0, .ref a0, .ref a1, .ref a2, .int 0]))] ++ [(a0, .inl (g.2.1 0, 30, .inl (fun _ => 0)))]) ++ [(a1, .inl (g.2.1 0, 30, .inl (fun _ => 0)))]) ++ [(a2, .inl (g.2.1 0, 30, .inl (fun _ => 0)))])) (ty := tyX3 3) C iX3 tyX3 tyX3_ok nmX3 0 rfl rfl 3 (by decide) wd_220 rfl rfl hin rfl (by decide +kernel) rfl rfl (Nat.le_of_ble_eq_true rfl) dX3_init_25 rfl ?_
  exact zc_vret C hr dX3_init_28 (fun i => [a0, a1, a2].getD i 0) rfl
def ZF4 (g : GE) (b : Nat) (ad : Nat → Nat) : va_W := [(b, .inr (4, [.int 0, .int 0, .int 0, .int 0]))]
def rm_X4 : Room := { frames := 1, locals := 20, cells := 0, slots := 0 }
theorem ci_X4 : (yX4_init.cls ≠ "java/lang/invoke/MethodHandle" ∧ yX4_init.cls ≠ "java/lang/invoke/VarHandle" ∧ (parseMethodDescriptor yX4_init.desc).map (fun d => d.parameters.length) = some 0) := ⟨by decide +kernel, by decide +kernel, by decide +kernel⟩
theorem cc_X4 {l : Launch} {g : GE} (b : Nat) (w0 : va_W) : Met l yX4_init (Cond.code yX4_init cX4_init 1 none :: TB) rm_X4 (zKc g (w0 ++ [(b, .inr (4, [.int 0, .int 0, .int 0, .int 0]))]) [.ref b]) (zKq g (fun ad => w0 ++ ZF4 g b ad)) 0 0 (zA g) := by
  refine zKet (own := RX4) (by decide +kernel) rfl rfl (by decide) ?_
  intro p e s m args below meth c C hr hin
  refine zc_aload_n C dX4_init_0 rfl 0 rfl ?_
  refine zc_objInit C wd_239 wd_42 wd_43 dX4_init_1 (by decide) (by decide) (Nat.le_of_ble_eq_true rfl) ?_
  exact zc_vret C hr dX4_init_4 (fun _ => 0) rfl
def ZF9 (g : GE) (b : Nat) (ad : Nat → Nat) : va_W := (((((((((((([(b, .inr (9, [.ref (ad 0), .ref (ad 8), .ref (ad 16), .int 0, .ref (ad 24), .ref (ad 90), .ref (ad 94), .ref (ad 99), .ref (ad 104), .ref (ad 107), .ref (ad 109), .ref (ad 111), .ref (ad 115), .int (-1), .int 0, .int 0]))] ++ ZF6 g (ad 0) (fun i => ad (i + 1))) ++ ZF6 g (ad 8) (fun i => ad (i + 9))) ++ ZF6 g (ad 16) (fun i => ad (i + 17))) ++ ZF0 g (ad 24) (fun i => ad (i + 25))) ++ ZF1 g (ad 90) (fun i => ad (i + 91))) ++ ZF7 g (ad 94) (fun i => ad (i + 95))) ++ ZF7 g (ad 99) (fun i => ad (i + 100))) ++ ZF5 g (ad 104) (fun i => ad (i + 105))) ++ ZF8 g (ad 107) (fun i => ad (i + 108))) ++ ZF8 g (ad 109) (fun i => ad (i + 110))) ++ ZF3 g (ad 111) (fun i => ad (i + 112))) ++ ZF4 g (ad 115) (fun i => ad (i + 116)))
def rm_X9 : Room := { frames := 4, locals := 81, cells := 116, slots := 10153 }
theorem ci_X9 : (yX9_init.cls ≠ "java/lang/invoke/MethodHandle" ∧ yX9_init.cls ≠ "java/lang/invoke/VarHandle" ∧ (parseMethodDescriptor yX9_init.desc).map (fun d => d.parameters.length) = some 0) := ⟨by decide +kernel, by decide +kernel, by decide +kernel⟩
theorem cc_X9 {l : Launch} {g : GE} (b : Nat) (w0 : va_W) : Met l yX9_init (Cond.code yX9_init cX9_init 1 none :: TB) rm_X9 (zKc g (w0 ++ [(b, .inr (9, [.null, .null, .null, .int 0, .null, .null, .null, .null, .null, .null, .null, .null, .null, .int 0, .int 0, .int 0]))]) [.ref b]) (zKq g (fun ad => w0 ++ ZF9 g b ad)) 116 10153 (zA g) := by
  refine zKet (own := RX9) (by decide +kernel) rfl rfl (by decide) ?_
  intro p e s m args below meth c C hr hin
  refine zc_aload_n C dX9_init_0 rfl 0 rfl ?_
  refine zc_objInit C wd_41 wd_42 wd_43 dX9_init_1 (by decide) (by decide) (Nat.le_of_ble_eq_true rfl) ?_
  refine zc_aload_n C dX9_init_4 rfl 0 rfl ?_
  refine zc_new (ci := 6) (fs := [.null, .null, .int 0]) C iX6 tyX6 tyX6_ok wd_44 wd_45 wd_2 rfl (zFs (by rfl)) (by decide) (by decide) dX9_init_5 (fun a0 => ?_)
  refine zc_dup C dX9_init_8 rfl ?_
  refine zc_callN (ZF := ZF6 g) C (fun b v0 => cc_X6 b v0) wd_46 wd_47 wd_2 wd_48 rfl ci_X6 rfl rfl (by decide) (by decide) (Nat.le_of_ble_eq_true rfl) dX9_init_9 (fun d0 => ?_)
  refine zc_putF (ws1 := ([(b, .inr (9, [.ref a0, .null, .null, .int 0, .null, .null, .null, .null, .null, .null, .null, .null, .null, .int 0, .int 0, .int 0]))] ++ ZF6 g a0 d0)) (ty := tyX9 0) C iX9 tyX9 tyX9_ok nmX9 0 rfl rfl 0 (by decide) wd_253 rfl rfl hin rfl (by decide +kernel) rfl rfl (Nat.le_of_ble_eq_true rfl) dX9_init_12 rfl ?_
  refine zc_aload_n C dX9_init_15 rfl 0 rfl ?_
  refine zc_new (ci := 6) (fs := [.null, .null, .int 0]) C iX6 tyX6 tyX6_ok wd_44 wd_45 wd_2 rfl (zFs (by rfl)) (by decide) (by decide) dX9_init_16 (fun a1 => ?_)
  refine zc_dup C dX9_init_19 rfl ?_
  refine zc_callN (ZF := ZF6 g) C (fun b v0 => cc_X6 b v0) wd_46 wd_47 wd_2 wd_48 rfl ci_X6 rfl rfl (by decide) (by decide) (Nat.le_of_ble_eq_true rfl) dX9_init_20 (fun d1 => ?_)
  refine zc_putF (ws1 := (([(b, .inr (9, [.ref a0, .ref a1, .null, .int 0, .null, .null, .null, .null, .null, .null, .null, .null, .null, .int 0, .int 0, .int 0]))] ++ ZF6 g a0 d0) ++ ZF6 g a1 d1)) (ty := tyX9 1) C iX9 tyX9 tyX9_ok nmX9 0 rfl rfl 1 (by decide) wd_254 rfl rfl hin rfl (by decide +kernel) rfl rfl (Nat.le_of_ble_eq_true rfl) dX9_init_23 rfl ?_
  refine zc_aload_n C dX9_init_26 rfl 0 rfl ?_
  refine zc_new (ci := 6) (fs := [.null, .null, .int 0]) C iX6 tyX6 tyX6_ok wd_44 wd_45 wd_2 rfl (zFs (by rfl)) (by decide) (by decide) dX9_init_27 (fun a2 => ?_)
  refine zc_dup C dX9_init_30 rfl ?_
  refine zc_callN (ZF := ZF6 g) C (fun b v0 => cc_X6 b v0) wd_46 wd_47 wd_2 wd_48 rfl ci_X6 rfl rfl (by decide) (by decide) (Nat.le_of_ble_eq_true rfl) dX9_init_31 (fun d2 => ?_)
  refine zc_putF (ws1 := ((([(b, .inr (9, [.ref a0, .ref a1, .ref a2, .int 0, .null, .null, .null, .null, .null, .null, .null, .null, .null, .int 0, .int 0, .int 0]))] ++ ZF6 g a0 d0) ++ ZF6 g a1 d1) ++ ZF6 g a2 d2)) (ty := tyX9 2) C iX9 tyX9 tyX9_ok nmX9 0 rfl rfl 2 (by decide) wd_255 rfl rfl hin rfl (by decide +kernel) rfl rfl (Nat.le_of_ble_eq_true rfl) dX9_init_34 rfl ?_
  refine zc_aload_n C dX9_init_37 rfl 0 rfl ?_
  refine zc_new (ci := 0) (fs := [.null, .int 0, .int 0]) C iX0 tyX0 tyX0_ok wd_128 wd_129 wd_5 rfl (zFs (by rfl)) (by decide) (by decide) dX9_init_38 (fun a3 => ?_)
  refine zc_dup C dX9_init_41 rfl ?_
  refine zc_call (ZF := ZF0 g) C (fun b v0 => cc_X0 b v0) wd_130 wd_131 wd_5 wd_132 rfl ci_X0 rfl rfl (by decide) (by decide) (Nat.le_of_ble_eq_true rfl) dX9_init_42 (fun d3 => ?_)
  refine zc_putF (ws1 := (((([(b, .inr (9, [.ref a0, .ref a1, .ref a2, .int 0, .ref a3, .null, .null, .null, .null, .null, .null, .null, .null, .int 0, .int 0, .int 0]))] ++ ZF6 g a0 d0) ++ ZF6 g a1 d1) ++ ZF6 g a2 d2) ++ ZF0 g a3 d3)) (ty := tyX9 4) C iX9 tyX9 tyX9_ok nmX9 0 rfl rfl 4 (by decide) wd_257 rfl rfl hin rfl (by decide +kernel) rfl rfl (Nat.le_of_ble_eq_true rfl) dX9_init_45 rfl ?_
  refine zc_aload_n C dX9_init_48 rfl 0 rfl ?_
  refine zc_new (ci := 1) (fs := [.int 0, .int 0, .int 0, .int 0, .int 0, .null, .null, .null]) C iX1 tyX1 tyX1_ok wd_148 wd_51 wd_3 rfl (zFs (by rfl)) (by decide) (by decide) dX9_init_49 (fun a4 => ?_)
  refine zc_dup C dX9_init_52 rfl ?_
  refine zc_callN (ZF := ZF1 g) C (fun b v0 => cc_X1 b v0) wd_149 wd_53 wd_3 wd_54 rfl ci_X1 rfl rfl (by decide) (by decide) (Nat.le_of_ble_eq_true rfl) dX9_init_53 (fun d4 => ?_)
  refine zc_putF (ws1 := ((((([(b, .inr (9, [.ref a0, .ref a1, .ref a2, .int 0, .ref a3, .ref a4, .null, .null, .null, .null, .null, .null, .null, .int 0, .int 0, .int 0]))] ++ ZF6 g a0 d0) ++ ZF6 g a1 d1) ++ ZF6 g a2 d2) ++ ZF0 g a3 d3) ++ ZF1 g a4 d4)) (ty := tyX9 5) C iX9 tyX9 tyX9_ok nmX9 0 rfl rfl 5 (by decide) wd_258 rfl rfl hin rfl (by decide +kernel) rfl rfl (Nat.le_of_ble_eq_true rfl) dX9_init_56 rfl ?_
  refine zc_aload_n C dX9_init_59 rfl 0 rfl ?_
  refine zc_new (ci := 7) (fs := [.int 0, .int 0, .null, .null, .null, .null]) C iX7 tyX7 tyX7_ok wd_150 wd_151 wd_6 rfl (zFs (by rfl)) (by decide) (by decide) dX9_init_60 (fun a5 => ?_)
  refine zc_dup C dX9_init_63 rfl ?_
  refine zc_callN (ZF := ZF7 g) C (fun b v0 => cc_X7 b v0) wd_152 wd_153 wd_6 wd_154 rfl ci_X7 rfl rfl (by decide) (by decide) (Nat.le_of_ble_eq_true rfl) dX9_init_64 (fun d5 => ?_)
  refine zc_putF (ws1 := (((((([(b, .inr (9, [.ref a0, .ref a1, .ref a2, .int 0, .ref a3, .ref a4, .ref a5, .null, .null, .null, .null, .null, .null, .int 0, .int 0, .int 0]))] ++ ZF6 g a0 d0) ++ ZF6 g a1 d1) ++ ZF6 g a2 d2) ++ ZF0 g a3 d3) ++ ZF1 g a4 d4) ++ ZF7 g a5 d5)) (ty := tyX9 6) C iX9 tyX9 tyX9_ok nmX9 0 rfl rfl 6 (by decide) wd_259 rfl rfl hin rfl (by decide +kernel) rfl rfl (Nat.le_of_ble_eq_true rfl) dX9_init_67 rfl ?_
  refine zc_aload_n C dX9_init_70 rfl 0 rfl ?_
  refine zc_new (ci := 7) (fs := [.int 0, .int 0, .null, .null, .null, .null]) C iX7 tyX7 tyX7_ok wd_150 wd_151 wd_6 rfl (zFs (by rfl)) (by decide) (by decide) dX9_init_71 (fun a6 => ?_)
  refine zc_dup C dX9_init_74 rfl ?_
  refine zc_callN (ZF := ZF7 g) C (fun b v0 => cc_X7 b v0) wd_152 wd_153 wd_6 wd_154 rfl ci_X7 rfl rfl (by decide) (by decide) (Nat.le_of_ble_eq_true rfl) dX9_init_75 (fun d6 => ?_)
  refine zc_putF (ws1 := ((((((([(b, .inr (9, [.ref a0, .ref a1, .ref a2, .int 0, .ref a3, .ref a4, .ref a5, .ref a6, .null, .null, .null, .null, .null, .int 0, .int 0, .int 0]))] ++ ZF6 g a0 d0) ++ ZF6 g a1 d1) ++ ZF6 g a2 d2) ++ ZF0 g a3 d3) ++ ZF1 g a4 d4) ++ ZF7 g a5 d5) ++ ZF7 g a6 d6)) (ty := tyX9 7) C iX9 tyX9 tyX9_ok nmX9 0 rfl rfl 7 (by decide) wd_260 rfl rfl hin rfl (by decide +kernel) rfl rfl (Nat.le_of_ble_eq_true rfl) dX9_init_78 rfl ?_
  refine zc_aload_n C dX9_init_81 rfl 0 rfl ?_
  refine zc_new (ci := 5) (fs := [.int 0, .null, .null]) C iX5 tyX5 tyX5_ok wd_176 wd_177 wd_7 rfl (zFs (by rfl)) (by decide) (by decide) dX9_init_82 (fun a7 => ?_)
  refine zc_dup C dX9_init_85 rfl ?_
  refine zc_callN (ZF := ZF5 g) C (fun b v0 => cc_X5 b v0) wd_178 wd_179 wd_7 wd_180 rfl ci_X5 rfl rfl (by decide) (by decide) (Nat.le_of_ble_eq_true rfl) dX9_init_86 (fun d7 => ?_)
  refine zc_putF (ws1 := (((((((([(b, .inr (9, [.ref a0, .ref a1, .ref a2, .int 0, .ref a3, .ref a4, .ref a5, .ref a6, .ref a7, .null, .null, .null, .null, .int 0, .int 0, .int 0]))] ++ ZF6 g a0 d0) ++ ZF6 g a1 d1) ++ ZF6 g a2 d2) ++ ZF0 g a3 d3) ++ ZF1 g a4 d4) ++ ZF7 g a5 d5) ++ ZF7 g a6 d6) ++ ZF5 g a7 d7)) (ty := tyX9 8) C iX9 tyX9 tyX9_ok nmX9 0 rfl rfl 8 (by decide) wd_261 rfl rfl hin rfl (by decide +kernel) rfl rfl (Nat.le_of_ble_eq_true rfl) dX9_init_89 rfl ?_
  refine zc_aload_n C dX9_init_92 rfl 0 rfl ?_
  refine zc_new (ci := 8) (fs := [.int 0, .null]) C iX8 tyX8 tyX8_ok wd_192 wd_193 wd_8 rfl (zFs (by rfl)) (by decide) (by decide) dX9_init_93 (fun a8 => ?_)
  refine zc_dup C dX9_init_96 rfl ?_
  refine zc_callN (ZF := ZF8 g) C (fun b v0 => cc_X8 b v0) wd_194 wd_195 wd_8 wd_196 rfl ci_X8 rfl rfl (by decide) (by decide) (Nat.le_of_ble_eq_true rfl) dX9_init_97 (fun d8 => ?_)
  refine zc_putF (ws1 := ((((((((([(b, .inr (9, [.ref a0, .ref a1, .ref a2, .int 0, .ref a3, .ref a4, .ref a5, .ref a6, .ref a7, .ref a8, .null, .null, .null, .int 0, .int 0, .int 0]))] ++ ZF6 g a0 d0) ++ ZF6 g a1 d1) ++ ZF6 g a2 d2) ++ ZF0 g a3 d3) ++ ZF1 g a4 d4) ++ ZF7 g a5 d5) ++ ZF7 g a6 d6) ++ ZF5 g a7 d7) ++ ZF8 g a8 d8)) (ty := tyX9 9) C iX9 tyX9 tyX9_ok nmX9 0 rfl rfl 9 (by decide) wd_262 rfl rfl hin rfl (by decide +kernel) rfl rfl (Nat.le_of_ble_eq_true rfl) dX9_init_100 rfl ?_
  refine zc_aload_n C dX9_init_103 rfl 0 rfl ?_
  refine zc_new (ci := 8) (fs := [.int 0, .null]) C iX8 tyX8 tyX8_ok wd_192 wd_193 wd_8 rfl (zFs (by rfl)) (by decide) (by decide) dX9_init_104 (fun a9 => ?_)
  refine zc_dup C dX9_init_107 rfl ?_
  refine zc_callN (ZF := ZF8 g) C (fun b v0 => cc_X8 b v0) wd_194 wd_195 wd_8 wd_196 rfl ci_X8 rfl rfl (by decide) (by decide) (Nat.le_of_ble_eq_true rfl) dX9_init_108 (fun d9 => ?_)
  refine zc_putF (ws1 := (((((((((([(b, .inr (9, [.ref a0, .ref a1, .ref a2, .int 0, .ref a3, .ref a4, .ref a5, .ref a6, .ref a7, .ref a8, .ref a9, .null, .null, .int 0, .int 0, .int 0]))] ++ ZF6 g a0 d0) ++ ZF6 g a1 d1) ++ ZF6 g a2 d2) ++ ZF0 g a3 d3) ++ ZF1 g a4 d4) ++ ZF7 g a5 d5) ++ ZF7 g a6 d6) ++ ZF5 g a7 d7) ++ ZF8 g a8 d8) ++ ZF8 g a9 d9)) (ty := tyX9 10) C iX9 tyX9 tyX9_ok nmX9 0 rfl rfl 10 (by decide) wd_263 rfl rfl hin rfl (by decide +kernel) rfl rfl (Nat.le_of_ble_eq_true rfl) dX9_init_111 rfl ?_
  refine zc_aload_n C dX9_init_114 rfl 0 rfl ?_
  refine zc_new (ci := 3) (fs := [.int 0, .null, .null, .null, .int 0]) C iX3 tyX3 tyX3_ok wd_208 wd_209 wd_9 rfl (zFs (by rfl)) (by decide) (by decide) dX9_init_115 (fun a10 => ?_)
  refine zc_dup C dX9_init_118 rfl ?_
  refine zc_callN (ZF := ZF3 g) C (fun b v0 => cc_X3 b v0) wd_210 wd_211 wd_9 wd_212 rfl ci_X3 rfl rfl (by decide) (by decide) (Nat.le_of_ble_eq_true rfl) dX9_init_119 (fun d10 => ?_)
  refine zc_putF (ws1 := ((((((((((([(b, .inr (9, [.ref a0, .ref a1, .ref a2, .int 0, .ref a3, .ref a4, .ref a5, .ref a6, .ref a7, .ref a8, .ref a9, .ref a10, .null, .int 0, .int 0, .int 0]))] ++ ZF6 g a0 d0) ++ ZF6 g a1 d1) ++ ZF6 g a2 d2) ++ ZF0 g a3 d3) ++ ZF1 g a4 d4) ++ ZF7 g a5 d5) ++ ZF7 g a6 d6) ++ ZF5 g a7 d7) ++ ZF8 g a8 d8) ++ ZF8 g a9 d9) ++ ZF3 g a10 d10)) (ty := tyX9 11) C iX9 tyX9 tyX9_ok nmX9 0 rfl rfl 11 (by decide) wd_264 rfl rfl hin rfl (by decide +kernel) rfl rfl (Nat.le_of_ble_eq_true rfl) dX9_init_122 rfl ?_
  refine zc_aload_n C dX9_init_125 rfl 0 rfl ?_
  refine zc_new (ci := 4) (fs := [.int 0, .int 0, .int 0, .int 0]) C iX4 tyX4 tyX4_ok wd_234 wd_235 wd_10 rfl (zFs (by rfl)) (by decide) (by decide) dX9_init_126 (fun a11 => ?_)
  refine zc_dup C dX9_init_129 rfl ?_
  refine zc_callN (ZF := ZF4 g) C (fun b v0 => cc_X4 b v0) wd_236 wd_237 wd_10 wd_238 rfl ci_X4 rfl rfl (by decide) (by decide) (Nat.le_of_ble_eq_true rfl) dX9_init_130 (fun d11 => ?_)
  refine zc_putF (ws1 := (((((((((((([(b, .inr (9, [.ref a0, .ref a1, .ref a2, .int 0, .ref a3, .ref a4, .ref a5, .ref a6, .ref a7, .ref a8, .ref a9, .ref a10, .ref a11, .int 0, .int 0, .int 0]))] ++ ZF6 g a0 d0) ++ ZF6 g a1 d1) ++ ZF6 g a2 d2) ++ ZF0 g a3 d3) ++ ZF1 g a4 d4) ++ ZF7 g a5 d5) ++ ZF7 g a6 d6) ++ ZF5 g a7 d7) ++ ZF8 g a8 d8) ++ ZF8 g a9 d9) ++ ZF3 g a10 d10) ++ ZF4 g a11 d11)) (ty := tyX9 12) C iX9 tyX9 tyX9_ok nmX9 0 rfl rfl 12 (by decide) wd_265 rfl rfl hin rfl (by decide +kernel) rfl rfl (Nat.le_of_ble_eq_true rfl) dX9_init_133 rfl ?_
  refine zc_aload_n C dX9_init_136 rfl 0 rfl ?_
  refine zc_iconst (v := -1) C dX9_init_137 (by decide +kernel) ?_
  refine zc_put (ws1 := (((((((((((([(b, .inr (9, [.ref a0, .ref a1, .ref a2, .int 0, .ref a3, .ref a4, .ref a5, .ref a6, .ref a7, .ref a8, .ref a9, .ref a10, .ref a11, .int (-1), .int 0, .int 0]))] ++ ZF6 g a0 d0) ++ ZF6 g a1 d1) ++ ZF6 g a2 d2) ++ ZF0 g a3 d3) ++ ZF1 g a4 d4) ++ ZF7 g a5 d5) ++ ZF7 g a6 d6) ++ ZF5 g a7 d7) ++ ZF8 g a8 d8) ++ ZF8 g a9 d9) ++ ZF3 g a10 d10) ++ ZF4 g a11 d11)) (ty := tyX9 13) C iX9 tyX9 tyX9_ok nmX9 0 rfl rfl 13 (by decide) wd_266 rfl rfl (by decide +kernel) rfl rfl (Nat.le_of_ble_eq_true rfl) dX9_init_138 rfl ?_
  exact zc_vret C hr dX9_init_141 (fun i => [a0, (d0 0), (d0 1), (d0 2), (d0 3), (d0 4), (d0 5), (d0 6), a1, (d1 0), (d1 1), (d1 2), (d1 3), (d1 4), (d1 5), (d1 6), a2, (d2 0), (d2 1), (d2 2), (d2 3), (d2 4), (d2 5), (d2 6), a3, (d3 0), (d3 1), (d3 2), (d3 3), (d3 4), (d3 5), (d3 6), (d3 7), (d3 8), (d3 9), (d3 10), (d3 11), (d3 12), (d3 13), (d3 14), (d3 15), (d3 16), (d3 17), (d3 18), (d3 19), (d3 20), (d3 21), (d3 22), (d3 23), (d3 24), (d3 25), (d3 26), (d3 27), (d3 28), (d3 29), (d3 30), (d3 31), (d3 32), (d3 33), (d3 34), (d3 35), (d3 36), (d3 37), (d3 38), (d3 39), (d3 40), (d3 41), (d3 42), (d3 43), (d3 44), (d3 45), (d3 46), (d3 47), (d3 48), (d3 49), (d3 50), (d3 51), (d3 52), (d3 53), (d3 54), (d3 55), (d3 56), (d3 57), (d3 58), (d3 59), (d3 60), (d3 61), (d3 62), (d3 63), (d3 64), a4, (d4 0), (d4 1), (d4 2), a5, (d5 0), (d5 1), (d5 2), (d5 3), a6, (d6 0), (d6 1), (d6 2), (d6 3), a7, (d7 0), (d7 1), a8, (d8 0), a9, (d9 0), a10, (d10 0), (d10 1), (d10 2), a11].getD i 0) rfl
