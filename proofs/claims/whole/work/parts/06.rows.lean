/-! THE ROWS, said of WM: a place of a body, its locals by list, its stack, the memory. -/
section ZR
variable {p : Program} {l : Launch} {e : Env} {R : Room} {s : State} {m : MethodId} {args : Array Value} {below : List Frame} {meth : Method} {c : Code} {g : GE} {own : String} {cc : ByteArray} {nL cells slots : Nat} {Q : State → Prop} {pc : Nat} {lv lv' : List (Nat × Value)} {st rest : List Value} {M M' : Mem}
theorem zCx.hx (C : zCx p l s m args meth c g own cc nL) : p.tables.exec = Jvm.exec := C.1
theorem zCx.hb (C : zCx p l s m args meth c g own cc nL) : c.code = cc := C.2.1
theorem zCx.hml (C : zCx p l s m args meth c g own cc nL) : c.maxLocals = nL := C.2.2.1
theorem zCx.hown (C : zCx p l s m args meth c g own cc nL) : s.vm.findClass own = some m.cls := C.2.2.2.1
theorem zCx.ht (C : zCx p l s m args meth c g own cc nL) : ∀ w ∈ TB, w.before args s = true := C.2.2.2.2.1
theorem zCx.hlocks (C : zCx p l s m args meth c g own cc nL) : meth.locks = false := C.2.2.2.2.2.1
theorem zCx.hfix (C : zCx p l s m args meth c g own cc nL) : zFix g s := C.2.2.2.2.2.2.1
theorem zCx.hdist (C : zCx p l s m args meth c g own cc nL) : zDist g := C.2.2.2.2.2.2.2.1
theorem zCx.hbase (C : zCx p l s m args meth c g own cc nL) : g.2.2.2 ≤ s.heap.size := C.2.2.2.2.2.2.2.2
theorem zCx.hK (C : zCx p l s m args meth c g own cc nL) : va_K g.1 zCl (zTys g) s := C.hfix.1
theorem zCx.hA (C : zCx p l s m args meth c g own cc nL) : ∀ q : Nat, s.heap.size ≤ q → zA g q := fun _ h => Nat.le_trans C.hbase h
theorem zCx.nw (C : zCx p l s m args meth c g own cc nL) {w : Cond} (h : w ∈ TN) : va_Nw w s := C.hfix.2.1 w h
theorem zOld (C : zCx p l s m args meth c g own cc nL) {H H1 : Heap} {locs locs1 : List Loc} (hs : va_S (zA g) s.heap H locs) (h1 : va_S (zA g) s.heap H1 locs1) : ∀ a : Nat, a < H.size → ¬ zA g a → H1[a]? = H[a]? := fun a _ hA =>
  have h : a < s.heap.size := Nat.lt_of_lt_of_le (Nat.lt_of_not_le hA) C.hbase
  (h1.2.1 a h hA).trans (hs.2.1 a h hA).symm
theorem zm_iconst (C : zCx p l s m args meth c g own cc nL) {n : Int} {v : Int32} (d : decode cc pc = .ok (.iconst n, 1)) (hv : Int32.ofInt n = v)
    (k : WM p l e R s m args below meth c g nL cells slots Q (pc + 1) lv (.int v :: st) M) : WM p l e R s m args below meth c g nL cells slots Q pc lv st M := fun H locs ls hl hp hs => lv_iconst C.hx C.hb d hv (k H locs ls hl hp hs)
theorem zm_bipush (C : zCx p l s m args meth c g own cc nL) {n : Int} {v : Int32} (d : decode cc pc = .ok (.bipush n, 2)) (hv : (Int8.ofInt n).toInt32 = v)
    (k : WM p l e R s m args below meth c g nL cells slots Q (pc + 2) lv (.int v :: st) M) : WM p l e R s m args below meth c g nL cells slots Q pc lv st M := fun H locs ls hl hp hs => lv_bipush C.hx C.hb d hv (k H locs ls hl hp hs)
theorem zm_sipush (C : zCx p l s m args meth c g own cc nL) {n : Int} {v : Int32} (d : decode cc pc = .ok (.sipush n, 3)) (hv : (Int16.ofInt n).toInt32 = v)
    (k : WM p l e R s m args below meth c g nL cells slots Q (pc + 3) lv (.int v :: st) M) : WM p l e R s m args below meth c g nL cells slots Q pc lv st M := fun H locs ls hl hp hs => lv_sipush C.hx C.hb d hv (k H locs ls hl hp hs)
theorem zm_lconst (C : zCx p l s m args meth c g own cc nL) {n : Fin 2} {v : Int64} (d : decode cc pc = .ok (.lconst n, 1)) (hv : Int64.ofNat (n : Nat) = v)
    (k : WM p l e R s m args below meth c g nL cells slots Q (pc + 1) lv (.long v :: st) M) : WM p l e R s m args below meth c g nL cells slots Q pc lv st M := fun H locs ls hl hp hs => lv_lconst C.hx C.hb d hv (k H locs ls hl hp hs)
theorem zm_iload_n (C : zCx p l s m args meth c g own cc nL) {k0 : Fin 4} {i : Nat} {x : Int32} (d : decode cc pc = .ok (.iload_n k0, 1)) (hi : (k0 : Nat) = i) (j : Nat) (hv : lv[j]? = some (i, .int x))
    (k : WM p l e R s m args below meth c g nL cells slots Q (pc + 1) lv (.int x :: st) M) : WM p l e R s m args below meth c g nL cells slots Q pc lv st M := fun H locs ls hl hp hs => lv_iload_n C.hx C.hb d hi (lv_at hl j hv) (k H locs ls hl hp hs)
theorem zm_iload (C : zCx p l s m args meth c g own cc nL) {i : Nat} {x : Int32} (d : decode cc pc = .ok (.iload i, 2)) (j : Nat) (hv : lv[j]? = some (i, .int x))
    (k : WM p l e R s m args below meth c g nL cells slots Q (pc + 2) lv (.int x :: st) M) : WM p l e R s m args below meth c g nL cells slots Q pc lv st M := fun H locs ls hl hp hs => lv_iload C.hx C.hb d (lv_at hl j hv) (k H locs ls hl hp hs)
theorem zm_istore_n (C : zCx p l s m args meth c g own cc nL) {k0 : Fin 4} {i : Nat} {x : Int32} (d : decode cc pc = .ok (.istore_n k0, 1)) (hi : (k0 : Nat) = i) (hn : i < nL) (hv : (i, Value.int x) :: lv.filter (fun q => !(q.1 == i) && !(q.1 + 1 == i && q.2.category == 2)) = lv')
    (k : WM p l e R s m args below meth c g nL cells slots Q (pc + 1) lv' st M) : WM p l e R s m args below meth c g nL cells slots Q pc lv (.int x :: st) M := fun H locs ls hl hp hs => lv_istore_n C.hx C.hb d hi hl hn hv (fun ls' hl' => k H locs ls' hl' hp hs)
theorem zm_istore (C : zCx p l s m args meth c g own cc nL) {i : Nat} {x : Int32} (d : decode cc pc = .ok (.istore i, 2)) (hn : i < nL) (hv : (i, Value.int x) :: lv.filter (fun q => !(q.1 == i) && !(q.1 + 1 == i && q.2.category == 2)) = lv')
    (k : WM p l e R s m args below meth c g nL cells slots Q (pc + 2) lv' st M) : WM p l e R s m args below meth c g nL cells slots Q pc lv (.int x :: st) M := fun H locs ls hl hp hs => lv_istore C.hx C.hb d hl hn hv (fun ls' hl' => k H locs ls' hl' hp hs)
theorem zm_lload_n (C : zCx p l s m args meth c g own cc nL) {k0 : Fin 4} {i : Nat} {x : Int64} (d : decode cc pc = .ok (.lload_n k0, 1)) (hi : (k0 : Nat) = i) (j : Nat) (hv : lv[j]? = some (i, .long x))
    (k : WM p l e R s m args below meth c g nL cells slots Q (pc + 1) lv (.long x :: st) M) : WM p l e R s m args below meth c g nL cells slots Q pc lv st M := fun H locs ls hl hp hs => lv_lload_n C.hx C.hb d hi (lv_at hl j hv) (k H locs ls hl hp hs)
theorem zm_lload (C : zCx p l s m args meth c g own cc nL) {i : Nat} {x : Int64} (d : decode cc pc = .ok (.lload i, 2)) (j : Nat) (hv : lv[j]? = some (i, .long x))
    (k : WM p l e R s m args below meth c g nL cells slots Q (pc + 2) lv (.long x :: st) M) : WM p l e R s m args below meth c g nL cells slots Q pc lv st M := fun H locs ls hl hp hs => lv_lload C.hx C.hb d (lv_at hl j hv) (k H locs ls hl hp hs)
theorem zm_lstore_n (C : zCx p l s m args meth c g own cc nL) {k0 : Fin 4} {i : Nat} {x : Int64} (d : decode cc pc = .ok (.lstore_n k0, 1)) (hi : (k0 : Nat) = i) (hn : i + 1 < nL) (hv : (i, Value.long x) :: lv.filter (fun q => !(q.1 == i) && (!(q.1 == i + 1) && !(q.1 + 1 == i && q.2.category == 2))) = lv')
    (k : WM p l e R s m args below meth c g nL cells slots Q (pc + 1) lv' st M) : WM p l e R s m args below meth c g nL cells slots Q pc lv (.long x :: st) M := fun H locs ls hl hp hs => lv_lstore_n C.hx C.hb d hi hl hn hv (fun ls' hl' => k H locs ls' hl' hp hs)
theorem zm_lstore (C : zCx p l s m args meth c g own cc nL) {i : Nat} {x : Int64} (d : decode cc pc = .ok (.lstore i, 2)) (hn : i + 1 < nL) (hv : (i, Value.long x) :: lv.filter (fun q => !(q.1 == i) && (!(q.1 == i + 1) && !(q.1 + 1 == i && q.2.category == 2))) = lv')
    (k : WM p l e R s m args below meth c g nL cells slots Q (pc + 2) lv' st M) : WM p l e R s m args below meth c g nL cells slots Q pc lv (.long x :: st) M := fun H locs ls hl hp hs => lv_lstore C.hx C.hb d hl hn hv (fun ls' hl' => k H locs ls' hl' hp hs)
theorem zm_aload_n (C : zCx p l s m args meth c g own cc nL) {k0 : Fin 4} {i : Nat} {x : Nat} (d : decode cc pc = .ok (.aload_n k0, 1)) (hi : (k0 : Nat) = i) (j : Nat) (hv : lv[j]? = some (i, .ref x))
    (k : WM p l e R s m args below meth c g nL cells slots Q (pc + 1) lv (.ref x :: st) M) : WM p l e R s m args below meth c g nL cells slots Q pc lv st M := fun H locs ls hl hp hs => lv_aload_n C.hx C.hb d hi (lv_at hl j hv) (k H locs ls hl hp hs)
theorem zm_aload (C : zCx p l s m args meth c g own cc nL) {i : Nat} {x : Nat} (d : decode cc pc = .ok (.aload i, 2)) (j : Nat) (hv : lv[j]? = some (i, .ref x))
    (k : WM p l e R s m args below meth c g nL cells slots Q (pc + 2) lv (.ref x :: st) M) : WM p l e R s m args below meth c g nL cells slots Q pc lv st M := fun H locs ls hl hp hs => lv_aload C.hx C.hb d (lv_at hl j hv) (k H locs ls hl hp hs)
theorem zm_astore_n (C : zCx p l s m args meth c g own cc nL) {k0 : Fin 4} {i : Nat} {x : Nat} (d : decode cc pc = .ok (.astore_n k0, 1)) (hi : (k0 : Nat) = i) (hn : i < nL) (hv : (i, Value.ref x) :: lv.filter (fun q => !(q.1 == i) && !(q.1 + 1 == i && q.2.category == 2)) = lv')
    (k : WM p l e R s m args below meth c g nL cells slots Q (pc + 1) lv' st M) : WM p l e R s m args below meth c g nL cells slots Q pc lv (.ref x :: st) M := fun H locs ls hl hp hs => lv_astore_n C.hx C.hb d hi hl hn hv (fun ls' hl' => k H locs ls' hl' hp hs)
theorem zm_astore (C : zCx p l s m args meth c g own cc nL) {i : Nat} {x : Nat} (d : decode cc pc = .ok (.astore i, 2)) (hn : i < nL) (hv : (i, Value.ref x) :: lv.filter (fun q => !(q.1 == i) && !(q.1 + 1 == i && q.2.category == 2)) = lv')
    (k : WM p l e R s m args below meth c g nL cells slots Q (pc + 2) lv' st M) : WM p l e R s m args below meth c g nL cells slots Q pc lv (.ref x :: st) M := fun H locs ls hl hp hs => lv_astore C.hx C.hb d hl hn hv (fun ls' hl' => k H locs ls' hl' hp hs)
theorem zm_fload_n (C : zCx p l s m args meth c g own cc nL) {k0 : Fin 4} {i : Nat} {x : UInt32} (d : decode cc pc = .ok (.fload_n k0, 1)) (hi : (k0 : Nat) = i) (j : Nat) (hv : lv[j]? = some (i, .float x))
    (k : WM p l e R s m args below meth c g nL cells slots Q (pc + 1) lv (.float x :: st) M) : WM p l e R s m args below meth c g nL cells slots Q pc lv st M := fun H locs ls hl hp hs => lv_fload_n C.hx C.hb d hi (lv_at hl j hv) (k H locs ls hl hp hs)
theorem zm_fload (C : zCx p l s m args meth c g own cc nL) {i : Nat} {x : UInt32} (d : decode cc pc = .ok (.fload i, 2)) (j : Nat) (hv : lv[j]? = some (i, .float x))
    (k : WM p l e R s m args below meth c g nL cells slots Q (pc + 2) lv (.float x :: st) M) : WM p l e R s m args below meth c g nL cells slots Q pc lv st M := fun H locs ls hl hp hs => lv_fload C.hx C.hb d (lv_at hl j hv) (k H locs ls hl hp hs)
theorem zm_fstore_n (C : zCx p l s m args meth c g own cc nL) {k0 : Fin 4} {i : Nat} {x : UInt32} (d : decode cc pc = .ok (.fstore_n k0, 1)) (hi : (k0 : Nat) = i) (hn : i < nL) (hv : (i, Value.float x) :: lv.filter (fun q => !(q.1 == i) && !(q.1 + 1 == i && q.2.category == 2)) = lv')
    (k : WM p l e R s m args below meth c g nL cells slots Q (pc + 1) lv' st M) : WM p l e R s m args below meth c g nL cells slots Q pc lv (.float x :: st) M := fun H locs ls hl hp hs => lv_fstore_n C.hx C.hb d hi hl hn hv (fun ls' hl' => k H locs ls' hl' hp hs)
theorem zm_fstore (C : zCx p l s m args meth c g own cc nL) {i : Nat} {x : UInt32} (d : decode cc pc = .ok (.fstore i, 2)) (hn : i < nL) (hv : (i, Value.float x) :: lv.filter (fun q => !(q.1 == i) && !(q.1 + 1 == i && q.2.category == 2)) = lv')
    (k : WM p l e R s m args below meth c g nL cells slots Q (pc + 2) lv' st M) : WM p l e R s m args below meth c g nL cells slots Q pc lv (.float x :: st) M := fun H locs ls hl hp hs => lv_fstore C.hx C.hb d hl hn hv (fun ls' hl' => k H locs ls' hl' hp hs)
theorem zm_dload_n (C : zCx p l s m args meth c g own cc nL) {k0 : Fin 4} {i : Nat} {x : UInt64} (d : decode cc pc = .ok (.dload_n k0, 1)) (hi : (k0 : Nat) = i) (j : Nat) (hv : lv[j]? = some (i, .double x))
    (k : WM p l e R s m args below meth c g nL cells slots Q (pc + 1) lv (.double x :: st) M) : WM p l e R s m args below meth c g nL cells slots Q pc lv st M := fun H locs ls hl hp hs => lv_dload_n C.hx C.hb d hi (lv_at hl j hv) (k H locs ls hl hp hs)
theorem zm_dload (C : zCx p l s m args meth c g own cc nL) {i : Nat} {x : UInt64} (d : decode cc pc = .ok (.dload i, 2)) (j : Nat) (hv : lv[j]? = some (i, .double x))
    (k : WM p l e R s m args below meth c g nL cells slots Q (pc + 2) lv (.double x :: st) M) : WM p l e R s m args below meth c g nL cells slots Q pc lv st M := fun H locs ls hl hp hs => lv_dload C.hx C.hb d (lv_at hl j hv) (k H locs ls hl hp hs)
theorem zm_dstore_n (C : zCx p l s m args meth c g own cc nL) {k0 : Fin 4} {i : Nat} {x : UInt64} (d : decode cc pc = .ok (.dstore_n k0, 1)) (hi : (k0 : Nat) = i) (hn : i + 1 < nL) (hv : (i, Value.double x) :: lv.filter (fun q => !(q.1 == i) && (!(q.1 == i + 1) && !(q.1 + 1 == i && q.2.category == 2))) = lv')
    (k : WM p l e R s m args below meth c g nL cells slots Q (pc + 1) lv' st M) : WM p l e R s m args below meth c g nL cells slots Q pc lv (.double x :: st) M := fun H locs ls hl hp hs => lv_dstore_n C.hx C.hb d hi hl hn hv (fun ls' hl' => k H locs ls' hl' hp hs)
theorem zm_dstore (C : zCx p l s m args meth c g own cc nL) {i : Nat} {x : UInt64} (d : decode cc pc = .ok (.dstore i, 2)) (hn : i + 1 < nL) (hv : (i, Value.double x) :: lv.filter (fun q => !(q.1 == i) && (!(q.1 == i + 1) && !(q.1 + 1 == i && q.2.category == 2))) = lv')
    (k : WM p l e R s m args below meth c g nL cells slots Q (pc + 2) lv' st M) : WM p l e R s m args below meth c g nL cells slots Q pc lv (.double x :: st) M := fun H locs ls hl hp hs => lv_dstore C.hx C.hb d hl hn hv (fun ls' hl' => k H locs ls' hl' hp hs)
theorem zm_aload_nN (C : zCx p l s m args meth c g own cc nL) {k0 : Fin 4} {i : Nat} (d : decode cc pc = .ok (.aload_n k0, 1)) (hi : (k0 : Nat) = i) (j : Nat) (hv : lv[j]? = some (i, .null))
    (k : WM p l e R s m args below meth c g nL cells slots Q (pc + 1) lv (.null :: st) M) : WM p l e R s m args below meth c g nL cells slots Q pc lv st M := fun H locs ls hl hp hs => lv_aload_nN C.hx C.hb d hi (lv_at hl j hv) (k H locs ls hl hp hs)
theorem zm_astore_nN (C : zCx p l s m args meth c g own cc nL) {k0 : Fin 4} {i : Nat} (d : decode cc pc = .ok (.astore_n k0, 1)) (hi : (k0 : Nat) = i) (hn : i < nL) (hv : (i, Value.null) :: lv.filter (fun q => !(q.1 == i) && !(q.1 + 1 == i && q.2.category == 2)) = lv')
    (k : WM p l e R s m args below meth c g nL cells slots Q (pc + 1) lv' st M) : WM p l e R s m args below meth c g nL cells slots Q pc lv (.null :: st) M := fun H locs ls hl hp hs => lv_astore_nN C.hx C.hb d hi hl hn hv (fun ls' hl' => k H locs ls' hl' hp hs)
theorem zm_aloadN (C : zCx p l s m args meth c g own cc nL) {i : Nat} (d : decode cc pc = .ok (.aload i, 2)) (j : Nat) (hv : lv[j]? = some (i, .null))
    (k : WM p l e R s m args below meth c g nL cells slots Q (pc + 2) lv (.null :: st) M) : WM p l e R s m args below meth c g nL cells slots Q pc lv st M := fun H locs ls hl hp hs => lv_aloadN C.hx C.hb d (lv_at hl j hv) (k H locs ls hl hp hs)
theorem zm_astoreN (C : zCx p l s m args meth c g own cc nL) {i : Nat} (d : decode cc pc = .ok (.astore i, 2)) (hn : i < nL) (hv : (i, Value.null) :: lv.filter (fun q => !(q.1 == i) && !(q.1 + 1 == i && q.2.category == 2)) = lv')
    (k : WM p l e R s m args below meth c g nL cells slots Q (pc + 2) lv' st M) : WM p l e R s m args below meth c g nL cells slots Q pc lv (.null :: st) M := fun H locs ls hl hp hs => lv_astoreN C.hx C.hb d hl hn hv (fun ls' hl' => k H locs ls' hl' hp hs)
theorem zm_iinc (C : zCx p l s m args meth c g own cc nL) {i : Nat} {n : Int} {x v : Int32} (d : decode cc pc = .ok (.iinc i n, 3)) (j : Nat) (hj : lv[j]? = some (i, .int x)) (hv : x + Int32.ofInt n = v) (hn : i < nL) (hf : (i, Value.int v) :: lv.filter (fun q => !(q.1 == i) && !(q.1 + 1 == i && q.2.category == 2)) = lv')
    (k : WM p l e R s m args below meth c g nL cells slots Q (pc + 3) lv' st M) : WM p l e R s m args below meth c g nL cells slots Q pc lv st M := fun H locs ls hl hp hs => lv_iinc C.hx C.hb d hl hj hv hn hf (fun ls' hl' => k H locs ls' hl' hp hs)
theorem zm_iadd (C : zCx p l s m args meth c g own cc nL) {x y : Int32} (d : decode cc pc = .ok (.iadd, 1)) 
    (k : WM p l e R s m args below meth c g nL cells slots Q (pc + 1) lv (.int (x + y) :: st) M) : WM p l e R s m args below meth c g nL cells slots Q pc lv (.int y :: .int x :: st) M := fun H locs ls hl hp hs => lv_iadd C.hx C.hb d  (k H locs ls hl hp hs)
theorem zm_isub (C : zCx p l s m args meth c g own cc nL) {x y : Int32} (d : decode cc pc = .ok (.isub, 1)) 
    (k : WM p l e R s m args below meth c g nL cells slots Q (pc + 1) lv (.int (x - y) :: st) M) : WM p l e R s m args below meth c g nL cells slots Q pc lv (.int y :: .int x :: st) M := fun H locs ls hl hp hs => lv_isub C.hx C.hb d  (k H locs ls hl hp hs)
theorem zm_imul (C : zCx p l s m args meth c g own cc nL) {x y : Int32} (d : decode cc pc = .ok (.imul, 1)) 
    (k : WM p l e R s m args below meth c g nL cells slots Q (pc + 1) lv (.int (x * y) :: st) M) : WM p l e R s m args below meth c g nL cells slots Q pc lv (.int y :: .int x :: st) M := fun H locs ls hl hp hs => lv_imul C.hx C.hb d  (k H locs ls hl hp hs)
theorem zm_iand (C : zCx p l s m args meth c g own cc nL) {x y : Int32} (d : decode cc pc = .ok (.iand, 1)) 
    (k : WM p l e R s m args below meth c g nL cells slots Q (pc + 1) lv (.int (x &&& y) :: st) M) : WM p l e R s m args below meth c g nL cells slots Q pc lv (.int y :: .int x :: st) M := fun H locs ls hl hp hs => lv_iand C.hx C.hb d  (k H locs ls hl hp hs)
theorem zm_ior (C : zCx p l s m args meth c g own cc nL) {x y : Int32} (d : decode cc pc = .ok (.ior, 1)) 
    (k : WM p l e R s m args below meth c g nL cells slots Q (pc + 1) lv (.int (x ||| y) :: st) M) : WM p l e R s m args below meth c g nL cells slots Q pc lv (.int y :: .int x :: st) M := fun H locs ls hl hp hs => lv_ior C.hx C.hb d  (k H locs ls hl hp hs)
theorem zm_ixor (C : zCx p l s m args meth c g own cc nL) {x y : Int32} (d : decode cc pc = .ok (.ixor, 1)) 
    (k : WM p l e R s m args below meth c g nL cells slots Q (pc + 1) lv (.int (x ^^^ y) :: st) M) : WM p l e R s m args below meth c g nL cells slots Q pc lv (.int y :: .int x :: st) M := fun H locs ls hl hp hs => lv_ixor C.hx C.hb d  (k H locs ls hl hp hs)
theorem zm_ishl (C : zCx p l s m args meth c g own cc nL) {x y : Int32} (d : decode cc pc = .ok (.ishl, 1)) 
    (k : WM p l e R s m args below meth c g nL cells slots Q (pc + 1) lv (.int (x <<< (y &&& 31)) :: st) M) : WM p l e R s m args below meth c g nL cells slots Q pc lv (.int y :: .int x :: st) M := fun H locs ls hl hp hs => lv_ishl C.hx C.hb d  (k H locs ls hl hp hs)
theorem zm_ishr (C : zCx p l s m args meth c g own cc nL) {x y : Int32} (d : decode cc pc = .ok (.ishr, 1)) 
    (k : WM p l e R s m args below meth c g nL cells slots Q (pc + 1) lv (.int (x >>> (y &&& 31)) :: st) M) : WM p l e R s m args below meth c g nL cells slots Q pc lv (.int y :: .int x :: st) M := fun H locs ls hl hp hs => lv_ishr C.hx C.hb d  (k H locs ls hl hp hs)
theorem zm_iushr (C : zCx p l s m args meth c g own cc nL) {x y : Int32} (d : decode cc pc = .ok (.iushr, 1)) 
    (k : WM p l e R s m args below meth c g nL cells slots Q (pc + 1) lv (.int (x.toUInt32 >>> (y.toUInt32 &&& Int32.toUInt32 31)).toInt32 :: st) M) : WM p l e R s m args below meth c g nL cells slots Q pc lv (.int y :: .int x :: st) M := fun H locs ls hl hp hs => lv_iushr C.hx C.hb d rfl (k H locs ls hl hp hs)
theorem zm_ineg (C : zCx p l s m args meth c g own cc nL) {x : Int32} (d : decode cc pc = .ok (.ineg, 1)) 
    (k : WM p l e R s m args below meth c g nL cells slots Q (pc + 1) lv (.int (-x) :: st) M) : WM p l e R s m args below meth c g nL cells slots Q pc lv (.int x :: st) M := fun H locs ls hl hp hs => lv_ineg C.hx C.hb d  (k H locs ls hl hp hs)
theorem zm_idiv (C : zCx p l s m args meth c g own cc nL) {x y : Int32} (d : decode cc pc = .ok (.idiv, 1)) (hne : ¬ y = 0)
    (k : WM p l e R s m args below meth c g nL cells slots Q (pc + 1) lv (.int (x / y) :: st) M) : WM p l e R s m args below meth c g nL cells slots Q pc lv (.int y :: .int x :: st) M := fun H locs ls hl hp hs => lv_idiv C.hx C.hb d hne (k H locs ls hl hp hs)
theorem zm_irem (C : zCx p l s m args meth c g own cc nL) {x y : Int32} (d : decode cc pc = .ok (.irem, 1)) (hne : ¬ y = 0)
    (k : WM p l e R s m args below meth c g nL cells slots Q (pc + 1) lv (.int (x - x / y * y) :: st) M) : WM p l e R s m args below meth c g nL cells slots Q pc lv (.int y :: .int x :: st) M := fun H locs ls hl hp hs => lv_irem C.hx C.hb d hne (k H locs ls hl hp hs)
theorem zm_ladd (C : zCx p l s m args meth c g own cc nL) {x y : Int64} (d : decode cc pc = .ok (.ladd, 1)) 
    (k : WM p l e R s m args below meth c g nL cells slots Q (pc + 1) lv (.long (x + y) :: st) M) : WM p l e R s m args below meth c g nL cells slots Q pc lv (.long y :: .long x :: st) M := fun H locs ls hl hp hs => lv_ladd C.hx C.hb d  (k H locs ls hl hp hs)
theorem zm_lsub (C : zCx p l s m args meth c g own cc nL) {x y : Int64} (d : decode cc pc = .ok (.lsub, 1)) 
    (k : WM p l e R s m args below meth c g nL cells slots Q (pc + 1) lv (.long (x - y) :: st) M) : WM p l e R s m args below meth c g nL cells slots Q pc lv (.long y :: .long x :: st) M := fun H locs ls hl hp hs => lv_lsub C.hx C.hb d  (k H locs ls hl hp hs)
theorem zm_land (C : zCx p l s m args meth c g own cc nL) {x y : Int64} (d : decode cc pc = .ok (.land, 1)) 
    (k : WM p l e R s m args below meth c g nL cells slots Q (pc + 1) lv (.long (x &&& y) :: st) M) : WM p l e R s m args below meth c g nL cells slots Q pc lv (.long y :: .long x :: st) M := fun H locs ls hl hp hs => lv_land C.hx C.hb d  (k H locs ls hl hp hs)
theorem zm_lor (C : zCx p l s m args meth c g own cc nL) {x y : Int64} (d : decode cc pc = .ok (.lor, 1)) 
    (k : WM p l e R s m args below meth c g nL cells slots Q (pc + 1) lv (.long (x ||| y) :: st) M) : WM p l e R s m args below meth c g nL cells slots Q pc lv (.long y :: .long x :: st) M := fun H locs ls hl hp hs => lv_lor C.hx C.hb d  (k H locs ls hl hp hs)
theorem zm_lneg (C : zCx p l s m args meth c g own cc nL) {x : Int64} (d : decode cc pc = .ok (.lneg, 1)) 
    (k : WM p l e R s m args below meth c g nL cells slots Q (pc + 1) lv (.long (-x) :: st) M) : WM p l e R s m args below meth c g nL cells slots Q pc lv (.long x :: st) M := fun H locs ls hl hp hs => lv_lneg C.hx C.hb d  (k H locs ls hl hp hs)
theorem zm_lshl (C : zCx p l s m args meth c g own cc nL) {x : Int64} {y : Int32} (d : decode cc pc = .ok (.lshl, 1)) 
    (k : WM p l e R s m args below meth c g nL cells slots Q (pc + 1) lv (.long (x <<< (y.toInt64 &&& 63)) :: st) M) : WM p l e R s m args below meth c g nL cells slots Q pc lv (.int y :: .long x :: st) M := fun H locs ls hl hp hs => lv_lshl C.hx C.hb d rfl (k H locs ls hl hp hs)
theorem zm_lshr (C : zCx p l s m args meth c g own cc nL) {x : Int64} {y : Int32} (d : decode cc pc = .ok (.lshr, 1)) 
    (k : WM p l e R s m args below meth c g nL cells slots Q (pc + 1) lv (.long (x >>> (y.toInt64 &&& 63)) :: st) M) : WM p l e R s m args below meth c g nL cells slots Q pc lv (.int y :: .long x :: st) M := fun H locs ls hl hp hs => lv_lshr C.hx C.hb d rfl (k H locs ls hl hp hs)
theorem zm_lushr (C : zCx p l s m args meth c g own cc nL) {x : Int64} {y : Int32} (d : decode cc pc = .ok (.lushr, 1)) 
    (k : WM p l e R s m args below meth c g nL cells slots Q (pc + 1) lv (.long (x.toUInt64 >>> (y.toInt64.toUInt64 &&& Int64.toUInt64 63)).toInt64 :: st) M) : WM p l e R s m args below meth c g nL cells slots Q pc lv (.int y :: .long x :: st) M := fun H locs ls hl hp hs => lv_lushr C.hx C.hb d rfl (k H locs ls hl hp hs)
theorem zm_i2l (C : zCx p l s m args meth c g own cc nL) {x : Int32} (d : decode cc pc = .ok (.i2l, 1)) 
    (k : WM p l e R s m args below meth c g nL cells slots Q (pc + 1) lv (.long x.toInt64 :: st) M) : WM p l e R s m args below meth c g nL cells slots Q pc lv (.int x :: st) M := fun H locs ls hl hp hs => lv_i2l C.hx C.hb d rfl (k H locs ls hl hp hs)
theorem zm_l2i (C : zCx p l s m args meth c g own cc nL) {x : Int64} (d : decode cc pc = .ok (.l2i, 1)) 
    (k : WM p l e R s m args below meth c g nL cells slots Q (pc + 1) lv (.int x.toInt32 :: st) M) : WM p l e R s m args below meth c g nL cells slots Q pc lv (.long x :: st) M := fun H locs ls hl hp hs => lv_l2i C.hx C.hb d rfl (k H locs ls hl hp hs)
theorem zm_i2c (C : zCx p l s m args meth c g own cc nL) {x : Int32} (d : decode cc pc = .ok (.i2c, 1)) 
    (k : WM p l e R s m args below meth c g nL cells slots Q (pc + 1) lv (.int (x.toUInt32 % 65536).toInt32 :: st) M) : WM p l e R s m args below meth c g nL cells slots Q pc lv (.int x :: st) M := fun H locs ls hl hp hs => lv_i2c C.hx C.hb d rfl (k H locs ls hl hp hs)
theorem zm_i2d (C : zCx p l s m args meth c g own cc nL) {x : Int32} (d : decode cc pc = .ok (.i2d, 1)) 
    (k : WM p l e R s m args below meth c g nL cells slots Q (pc + 1) lv (.double (FP.i2d x) :: st) M) : WM p l e R s m args below meth c g nL cells slots Q pc lv (.int x :: st) M := fun H locs ls hl hp hs => lv_i2d C.hx C.hb d  (k H locs ls hl hp hs)
theorem zm_i2f (C : zCx p l s m args meth c g own cc nL) {x : Int32} (d : decode cc pc = .ok (.i2f, 1)) 
    (k : WM p l e R s m args below meth c g nL cells slots Q (pc + 1) lv (.float (FP.i2f x) :: st) M) : WM p l e R s m args below meth c g nL cells slots Q pc lv (.int x :: st) M := fun H locs ls hl hp hs => lv_i2f C.hx C.hb d  (k H locs ls hl hp hs)
theorem zm_f2d (C : zCx p l s m args meth c g own cc nL) {x : UInt32} (d : decode cc pc = .ok (.f2d, 1)) (hne : vf_n64 (FP.f2d x))
    (k : WM p l e R s m args below meth c g nL cells slots Q (pc + 1) lv (.double (FP.f2d x) :: st) M) : WM p l e R s m args below meth c g nL cells slots Q pc lv (.float x :: st) M := fun H locs ls hl hp hs => lv_f2d C.hx C.hb d hne (k H locs ls hl hp hs)
theorem zm_ddiv (C : zCx p l s m args meth c g own cc nL) {x y : UInt64} (d : decode cc pc = .ok (.ddiv, 1)) (hne : vf_n64 (FP.ddiv x y))
    (k : WM p l e R s m args below meth c g nL cells slots Q (pc + 1) lv (.double (FP.ddiv x y) :: st) M) : WM p l e R s m args below meth c g nL cells slots Q pc lv (.double y :: .double x :: st) M := fun H locs ls hl hp hs => lv_ddiv C.hx C.hb d hne (k H locs ls hl hp hs)
theorem zm_fdiv (C : zCx p l s m args meth c g own cc nL) {x y : UInt32} (d : decode cc pc = .ok (.fdiv, 1)) (hne : vf_n32 (FP.fdiv x y))
    (k : WM p l e R s m args below meth c g nL cells slots Q (pc + 1) lv (.float (FP.fdiv x y) :: st) M) : WM p l e R s m args below meth c g nL cells slots Q pc lv (.float y :: .float x :: st) M := fun H locs ls hl hp hs => lv_fdiv C.hx C.hb d hne (k H locs ls hl hp hs)
theorem zm_dcmp (C : zCx p l s m args meth c g own cc nL) {x y : UInt64} {op : CmpOp} (d : decode cc pc = .ok (.dcmp op, 1)) 
    (k : WM p l e R s m args below meth c g nL cells slots Q (pc + 1) lv (.int (Op.cmpValue (FP.dcmp x y) op) :: st) M) : WM p l e R s m args below meth c g nL cells slots Q pc lv (.double y :: .double x :: st) M := fun H locs ls hl hp hs => lv_dcmp C.hx C.hb d  (k H locs ls hl hp hs)
theorem zm_lcmp (C : zCx p l s m args meth c g own cc nL) {x y : Int64} (d : decode cc pc = .ok (.lcmp, 1))
    (k : WM p l e R s m args below meth c g nL cells slots Q (pc + 1) lv (.int (lg_cmp x y) :: st) M) : WM p l e R s m args below meth c g nL cells slots Q pc lv (.long y :: .long x :: st) M := fun H locs ls hl hp hs => W.lcmp C.hx C.hb d (k H locs ls hl hp hs)
theorem zm_dup (C : zCx p l s m args meth c g own cc nL) {va : Value} (d : decode cc pc = .ok (.dup, 1)) (h1 : va.category = 1)
    (k : WM p l e R s m args below meth c g nL cells slots Q (pc + 1) lv (va :: va :: st) M) : WM p l e R s m args below meth c g nL cells slots Q pc lv (va :: st) M := fun H locs ls hl hp hs => lv_dup C.hx C.hb d h1 (k H locs ls hl hp hs)
theorem zm_pop (C : zCx p l s m args meth c g own cc nL) {va : Value} (d : decode cc pc = .ok (.pop, 1)) (h1 : va.category = 1)
    (k : WM p l e R s m args below meth c g nL cells slots Q (pc + 1) lv st M) : WM p l e R s m args below meth c g nL cells slots Q pc lv (va :: st) M := fun H locs ls hl hp hs => lv_pop C.hx C.hb d h1 (k H locs ls hl hp hs)
theorem zm_dup_x1 (C : zCx p l s m args meth c g own cc nL) {va vb : Value} (d : decode cc pc = .ok (.dup_x1, 1)) (h1 : va.category = 1) (h2 : vb.category = 1)
    (k : WM p l e R s m args below meth c g nL cells slots Q (pc + 1) lv (va :: vb :: va :: st) M) : WM p l e R s m args below meth c g nL cells slots Q pc lv (va :: vb :: st) M := fun H locs ls hl hp hs => lv_dup_x1 C.hx C.hb d h1 h2 (k H locs ls hl hp hs)
theorem zm_dup_x2 (C : zCx p l s m args meth c g own cc nL) {va vb vd : Value} (d : decode cc pc = .ok (.dup_x2, 1)) (h1 : va.category = 1) (h2 : vb.category = 1) (h3 : vd.category = 1)
    (k : WM p l e R s m args below meth c g nL cells slots Q (pc + 1) lv (va :: vb :: vd :: va :: st) M) : WM p l e R s m args below meth c g nL cells slots Q pc lv (va :: vb :: vd :: st) M := fun H locs ls hl hp hs => lv_dup_x2 C.hx C.hb d h1 h2 h3 (k H locs ls hl hp hs)
theorem zm_dup2_11 (C : zCx p l s m args meth c g own cc nL) {va vb : Value} (d : decode cc pc = .ok (.dup2, 1)) (h1 : va.category = 1) (h2 : vb.category = 1)
    (k : WM p l e R s m args below meth c g nL cells slots Q (pc + 1) lv (va :: vb :: va :: vb :: st) M) : WM p l e R s m args below meth c g nL cells slots Q pc lv (va :: vb :: st) M := fun H locs ls hl hp hs => lv_dup2_11 C.hx C.hb d h1 h2 (k H locs ls hl hp hs)
theorem zm_if_eq (C : zCx p l s m args meth c g own cc nL) {x : Int32} {off : Int} {tgt : Nat} (d : decode cc pc = .ok (.ifCond .eq off, 3)) (ht : (pc : Int) + off = (tgt : Int))
    (kt : x = 0 → WM p l e R s m args below meth c g nL cells slots Q tgt lv st M) (kf : ¬ x = 0 → WM p l e R s m args below meth c g nL cells slots Q (pc + 3) lv st M) : WM p l e R s m args below meth c g nL cells slots Q pc lv (.int x :: st) M := fun H locs ls hl hp hs => lv_if_eq C.hx C.hb d ht (fun h => kt h H locs ls hl hp hs) (fun h => kf h H locs ls hl hp hs)
theorem zm_if_ne (C : zCx p l s m args meth c g own cc nL) {x : Int32} {off : Int} {tgt : Nat} (d : decode cc pc = .ok (.ifCond .ne off, 3)) (ht : (pc : Int) + off = (tgt : Int))
    (kt : ¬ x = 0 → WM p l e R s m args below meth c g nL cells slots Q tgt lv st M) (kf : x = 0 → WM p l e R s m args below meth c g nL cells slots Q (pc + 3) lv st M) : WM p l e R s m args below meth c g nL cells slots Q pc lv (.int x :: st) M := fun H locs ls hl hp hs => lv_if_ne C.hx C.hb d ht (fun h => kt h H locs ls hl hp hs) (fun h => kf h H locs ls hl hp hs)
theorem zm_if_lt (C : zCx p l s m args meth c g own cc nL) {x : Int32} {off : Int} {tgt : Nat} (d : decode cc pc = .ok (.ifCond .lt off, 3)) (ht : (pc : Int) + off = (tgt : Int))
    (kt : x < 0 → WM p l e R s m args below meth c g nL cells slots Q tgt lv st M) (kf : ¬ x < 0 → WM p l e R s m args below meth c g nL cells slots Q (pc + 3) lv st M) : WM p l e R s m args below meth c g nL cells slots Q pc lv (.int x :: st) M := fun H locs ls hl hp hs => lv_if_lt C.hx C.hb d ht (fun h => kt h H locs ls hl hp hs) (fun h => kf h H locs ls hl hp hs)
theorem zm_if_ge (C : zCx p l s m args meth c g own cc nL) {x : Int32} {off : Int} {tgt : Nat} (d : decode cc pc = .ok (.ifCond .ge off, 3)) (ht : (pc : Int) + off = (tgt : Int))
    (kt : 0 ≤ x → WM p l e R s m args below meth c g nL cells slots Q tgt lv st M) (kf : ¬ 0 ≤ x → WM p l e R s m args below meth c g nL cells slots Q (pc + 3) lv st M) : WM p l e R s m args below meth c g nL cells slots Q pc lv (.int x :: st) M := fun H locs ls hl hp hs => lv_if_ge C.hx C.hb d ht (fun h => kt h H locs ls hl hp hs) (fun h => kf h H locs ls hl hp hs)
theorem zm_if_gt (C : zCx p l s m args meth c g own cc nL) {x : Int32} {off : Int} {tgt : Nat} (d : decode cc pc = .ok (.ifCond .gt off, 3)) (ht : (pc : Int) + off = (tgt : Int))
    (kt : 0 < x → WM p l e R s m args below meth c g nL cells slots Q tgt lv st M) (kf : ¬ 0 < x → WM p l e R s m args below meth c g nL cells slots Q (pc + 3) lv st M) : WM p l e R s m args below meth c g nL cells slots Q pc lv (.int x :: st) M := fun H locs ls hl hp hs => lv_if_gt C.hx C.hb d ht (fun h => kt h H locs ls hl hp hs) (fun h => kf h H locs ls hl hp hs)
theorem zm_if_le (C : zCx p l s m args meth c g own cc nL) {x : Int32} {off : Int} {tgt : Nat} (d : decode cc pc = .ok (.ifCond .le off, 3)) (ht : (pc : Int) + off = (tgt : Int))
    (kt : x ≤ 0 → WM p l e R s m args below meth c g nL cells slots Q tgt lv st M) (kf : ¬ x ≤ 0 → WM p l e R s m args below meth c g nL cells slots Q (pc + 3) lv st M) : WM p l e R s m args below meth c g nL cells slots Q pc lv (.int x :: st) M := fun H locs ls hl hp hs => lv_if_le C.hx C.hb d ht (fun h => kt h H locs ls hl hp hs) (fun h => kf h H locs ls hl hp hs)
theorem zm_icmp_eq (C : zCx p l s m args meth c g own cc nL) {x y : Int32} {off : Int} {tgt : Nat} (d : decode cc pc = .ok (.if_icmp .eq off, 3)) (ht : (pc : Int) + off = (tgt : Int))
    (kt : x = y → WM p l e R s m args below meth c g nL cells slots Q tgt lv st M) (kf : ¬ x = y → WM p l e R s m args below meth c g nL cells slots Q (pc + 3) lv st M) : WM p l e R s m args below meth c g nL cells slots Q pc lv (.int y :: .int x :: st) M := fun H locs ls hl hp hs => lv_icmp_eq C.hx C.hb d ht (fun h => kt h H locs ls hl hp hs) (fun h => kf h H locs ls hl hp hs)
theorem zm_icmp_ne (C : zCx p l s m args meth c g own cc nL) {x y : Int32} {off : Int} {tgt : Nat} (d : decode cc pc = .ok (.if_icmp .ne off, 3)) (ht : (pc : Int) + off = (tgt : Int))
    (kt : ¬ x = y → WM p l e R s m args below meth c g nL cells slots Q tgt lv st M) (kf : x = y → WM p l e R s m args below meth c g nL cells slots Q (pc + 3) lv st M) : WM p l e R s m args below meth c g nL cells slots Q pc lv (.int y :: .int x :: st) M := fun H locs ls hl hp hs => lv_icmp_ne C.hx C.hb d ht (fun h => kt h H locs ls hl hp hs) (fun h => kf h H locs ls hl hp hs)
theorem zm_icmp_lt (C : zCx p l s m args meth c g own cc nL) {x y : Int32} {off : Int} {tgt : Nat} (d : decode cc pc = .ok (.if_icmp .lt off, 3)) (ht : (pc : Int) + off = (tgt : Int))
    (kt : x < y → WM p l e R s m args below meth c g nL cells slots Q tgt lv st M) (kf : ¬ x < y → WM p l e R s m args below meth c g nL cells slots Q (pc + 3) lv st M) : WM p l e R s m args below meth c g nL cells slots Q pc lv (.int y :: .int x :: st) M := fun H locs ls hl hp hs => lv_icmp_lt C.hx C.hb d ht (fun h => kt h H locs ls hl hp hs) (fun h => kf h H locs ls hl hp hs)
theorem zm_icmp_ge (C : zCx p l s m args meth c g own cc nL) {x y : Int32} {off : Int} {tgt : Nat} (d : decode cc pc = .ok (.if_icmp .ge off, 3)) (ht : (pc : Int) + off = (tgt : Int))
    (kt : y ≤ x → WM p l e R s m args below meth c g nL cells slots Q tgt lv st M) (kf : ¬ y ≤ x → WM p l e R s m args below meth c g nL cells slots Q (pc + 3) lv st M) : WM p l e R s m args below meth c g nL cells slots Q pc lv (.int y :: .int x :: st) M := fun H locs ls hl hp hs => lv_icmp_ge C.hx C.hb d ht (fun h => kt h H locs ls hl hp hs) (fun h => kf h H locs ls hl hp hs)
theorem zm_icmp_gt (C : zCx p l s m args meth c g own cc nL) {x y : Int32} {off : Int} {tgt : Nat} (d : decode cc pc = .ok (.if_icmp .gt off, 3)) (ht : (pc : Int) + off = (tgt : Int))
    (kt : y < x → WM p l e R s m args below meth c g nL cells slots Q tgt lv st M) (kf : ¬ y < x → WM p l e R s m args below meth c g nL cells slots Q (pc + 3) lv st M) : WM p l e R s m args below meth c g nL cells slots Q pc lv (.int y :: .int x :: st) M := fun H locs ls hl hp hs => lv_icmp_gt C.hx C.hb d ht (fun h => kt h H locs ls hl hp hs) (fun h => kf h H locs ls hl hp hs)
theorem zm_icmp_le (C : zCx p l s m args meth c g own cc nL) {x y : Int32} {off : Int} {tgt : Nat} (d : decode cc pc = .ok (.if_icmp .le off, 3)) (ht : (pc : Int) + off = (tgt : Int))
    (kt : x ≤ y → WM p l e R s m args below meth c g nL cells slots Q tgt lv st M) (kf : ¬ x ≤ y → WM p l e R s m args below meth c g nL cells slots Q (pc + 3) lv st M) : WM p l e R s m args below meth c g nL cells slots Q pc lv (.int y :: .int x :: st) M := fun H locs ls hl hp hs => lv_icmp_le C.hx C.hb d ht (fun h => kt h H locs ls hl hp hs) (fun h => kf h H locs ls hl hp hs)
theorem zm_goto (C : zCx p l s m args meth c g own cc nL) {off : Int} {tgt : Nat} (d : decode cc pc = .ok (.goto off, 3)) (ht : (pc : Int) + off = (tgt : Int)) (k : WM p l e R s m args below meth c g nL cells slots Q tgt lv st M) : WM p l e R s m args below meth c g nL cells slots Q pc lv st M := fun H locs ls hl hp hs => lv_goto C.hx C.hb d ht (k H locs ls hl hp hs)
theorem zm_lookup (C : zCx p l s m args meth c g own cc nL) {dflt : Int} {ps : Array (Int × Int)} {len : Nat} {x : Int32} {off : Int} {tgt : Nat} (d : decode cc pc = .ok (.lookupswitch dflt ps, len)) (hp0 : (ps.toList.zip (ps.toList.drop 1)).all (fun (a, next) => a.1 < next.1) = true) (ho : Op.lookupswitch.offset ps.toList dflt x.toInt = off) (ht : (pc : Int) + off = (tgt : Int)) (k : WM p l e R s m args below meth c g nL cells slots Q tgt lv st M) : WM p l e R s m args below meth c g nL cells slots Q pc lv (.int x :: st) M := fun H locs ls hl hp hs => lv_lookup C.hx C.hb d hp0 ho ht (k H locs ls hl hp hs)
theorem zm_tableOut (C : zCx p l s m args meth c g own cc nL) {dflt lo hi : Int} {offs : Array Int} {len : Nat} {x : Int32} {tgt : Nat} (d : decode cc pc = .ok (.tableswitch dflt lo hi offs, len)) (h : x.toInt < lo ∨ hi < x.toInt) (ht : (pc : Int) + dflt = (tgt : Int)) (k : WM p l e R s m args below meth c g nL cells slots Q tgt lv st M) : WM p l e R s m args below meth c g nL cells slots Q pc lv (.int x :: st) M := fun H locs ls hl hp hs => lv_tableOut C.hx C.hb d h ht (k H locs ls hl hp hs)
theorem zm_tableIn (C : zCx p l s m args meth c g own cc nL) {dflt lo hi : Int} {offs : Array Int} {len : Nat} {x : Int32} {off : Int} {tgt : Nat} (d : decode cc pc = .ok (.tableswitch dflt lo hi offs, len)) (h1 : ¬ x.toInt < lo) (h2 : ¬ hi < x.toInt) (ho : offs[(x.toInt - lo).toNat]? = some off) (ht : (pc : Int) + off = (tgt : Int)) (k : WM p l e R s m args below meth c g nL cells slots Q tgt lv st M) : WM p l e R s m args below meth c g nL cells slots Q pc lv (.int x :: st) M := fun H locs ls hl hp hs => lv_tableIn C.hx C.hb d h1 h2 ho ht (k H locs ls hl hp hs)
theorem zm_sub (ks : List Nat) (h : lv_pick lv ks = lv') (k : WM p l e R s m args below meth c g nL cells slots Q pc lv' st M) : WM p l e R s m args below meth c g nL cells slots Q pc lv st M := fun H locs ls hl hp hs => k H locs ls (lv_sub hl ks h) hp hs
theorem zm_widen {k1 n1 : Nat} (h1 : cells ≤ k1) (h2 : slots ≤ n1) (k : WM p l e R s m args below meth c g nL k1 n1 Q pc lv st M) : WM p l e R s m args below meth c g nL cells slots Q pc lv st M := fun H locs ls hl hp hs => W.widen h1 h2 (k H locs ls hl hp hs)
theorem zm_ldc (C : zCx p l s m args meth c g own cc nL) {index : Nat} {v : Int32} (hw : Jvm.Cond.constant own index v ∈ TB) (d : decode cc pc = .ok (.ldc index, 2)) (k : WM p l e R s m args below meth c g nL cells slots Q (pc + 2) lv (.int v :: st) M) : WM p l e R s m args below meth c g nL cells slots Q pc lv st M := fun H locs ls hl hp hs => lv_ldc C.hx C.hb C.hown (C.ht _ hw) d (k H locs ls hl hp hs)
theorem zm_ldc_w (C : zCx p l s m args meth c g own cc nL) {index : Nat} {v : Int32} (hw : Jvm.Cond.constant own index v ∈ TB) (d : decode cc pc = .ok (.ldc_w index, 3)) (k : WM p l e R s m args below meth c g nL cells slots Q (pc + 3) lv (.int v :: st) M) : WM p l e R s m args below meth c g nL cells slots Q pc lv st M := fun H locs ls hl hp hs => lv_ldcw C.hx C.hb C.hown (C.ht _ hw) d (k H locs ls hl hp hs)
theorem zm_ldc2 (C : zCx p l s m args meth c g own cc nL) {index : Nat} {v : Int64} (hw : Jvm.Cond.constantLong own index v ∈ TB) (d : decode cc pc = .ok (.ldc2_w index, 3)) (k : WM p l e R s m args below meth c g nL cells slots Q (pc + 3) lv (.long v :: st) M) : WM p l e R s m args below meth c g nL cells slots Q pc lv st M := fun H locs ls hl hp hs => lv_ldc2 C.hx C.hb C.hown (C.ht _ hw) d (k H locs ls hl hp hs)
theorem zm_null (C : zCx p l s m args meth c g own cc nL) (d : decode cc pc = .ok (.aconst_null, 1)) (k : WM p l e R s m args below meth c g nL cells slots Q (pc + 1) lv (.null :: st) M) : WM p l e R s m args below meth c g nL cells slots Q pc lv st M := fun H locs ls hl hp hs => lv_null C.hx C.hb d (k H locs ls hl hp hs)
theorem zm_ifnonnull (C : zCx p l s m args meth c g own cc nL) {x : Nat} {off : Int} {tgt : Nat} (d : decode cc pc = .ok (.ifnonnull off, 3)) (ht : (pc : Int) + off = (tgt : Int)) (k : WM p l e R s m args below meth c g nL cells slots Q tgt lv st M) : WM p l e R s m args below meth c g nL cells slots Q pc lv (.ref x :: st) M := fun H locs ls hl hp hs => lv_ifnonnull C.hx C.hb d ht (k H locs ls hl hp hs)
theorem zm_ifnull (C : zCx p l s m args meth c g own cc nL) {x : Nat} {off : Int} (d : decode cc pc = .ok (.ifnull off, 3)) (k : WM p l e R s m args below meth c g nL cells slots Q (pc + 3) lv st M) : WM p l e R s m args below meth c g nL cells slots Q pc lv (.ref x :: st) M := fun H locs ls hl hp hs => lv_ifnull C.hx C.hb d (k H locs ls hl hp hs)
theorem zm_ifnullN (C : zCx p l s m args meth c g own cc nL) {off : Int} {tgt : Nat} (d : decode cc pc = .ok (.ifnull off, 3)) (ht : (pc : Int) + off = (tgt : Int)) (k : WM p l e R s m args below meth c g nL cells slots Q tgt lv st M) : WM p l e R s m args below meth c g nL cells slots Q pc lv (.null :: st) M := fun H locs ls hl hp hs => lv_ifnullN C.hx C.hb d ht (k H locs ls hl hp hs)
theorem zm_ifnonnullN (C : zCx p l s m args meth c g own cc nL) {off : Int} (d : decode cc pc = .ok (.ifnonnull off, 3)) (k : WM p l e R s m args below meth c g nL cells slots Q (pc + 3) lv st M) : WM p l e R s m args below meth c g nL cells slots Q pc lv (.null :: st) M := fun H locs ls hl hp hs => lv_ifnonnullN C.hx C.hb d (k H locs ls hl hp hs)
theorem zm_ld_x (C : zCx p l s m args meth c g own cc nL) {k0 n : Nat} (hk : zkd k0 = 5) (hn : zln k0 = n) {i : Int32} (hin : vp_in i n) (d : decode cc pc = .ok (.iaload, 1)) (k : WM p l e R s m args below meth c g nL cells slots Q (pc + 1) lv (.int (M.1 k0 i.toNatClampNeg) :: st) M) : WM p l e R s m args below meth c g nL cells slots Q pc lv (.int i :: .ref (g.2.2.1 k0) :: st) M := by
  subst hn
  exact fun H locs ls hl hp hs => va_iald C.hx C.hb C.hK hp.1 k0 0 (by rw [zW_at g M (zkd_lt hk (by decide)), zCell_k hk]; rfl) rfl hin d (k H locs ls hl hp hs)
theorem zm_st_x (C : zCx p l s m args meth c g own cc nL) {k0 n : Nat} (hk : zkd k0 = 5) (hn : zln k0 = n) {i x : Int32} (hin : vp_in i n) (hM : M' = (u2 M.1 k0 i.toNatClampNeg x, M.2)) (d : decode cc pc = .ok (.iastore, 1)) (k : WM p l e R s m args below meth c g nL cells slots Q (pc + 1) lv st M') : WM p l e R s m args below meth c g nL cells slots Q pc lv (.int x :: .int i :: .ref (g.2.2.1 k0) :: st) M := by
  subst hn
  subst hM
  intro H locs ls hl hp hs
  refine va_iast C.hx C.hb C.hK hp.1 (C.hdist.D M) hs k0 0 (n := zln k0) (f := M.1 k0) (by rw [zW_at g M (zkd_lt hk (by decide)), zCell_k hk]; rfl) rfl hin d (fun H1 locs1 hP1 hD1 hS1 => ?_)
  refine k H1 locs1 ls hl (zPic.kept hp ?_ (fun a ha hA => ?_)) hS1
  · rw [← zset_x, zCell_k hk]
    show va_P g.1 zCl ((zW g M).set k0 (g.2.2.1 k0, .inl (g.2.1 0, zln k0, .inl (u2 M.1 k0 _ _ k0)))) H1
    rw [u2_same]
    exact hP1
  · exact zOld C hs hS1 a ha hA
theorem zm_ld_m (C : zCx p l s m args meth c g own cc nL) {k0 n : Nat} (hk : zkd k0 = 15) (hn : zln k0 = n) {i : Int32} (hin : vp_in i n) (d : decode cc pc = .ok (.iaload, 1)) (k : WM p l e R s m args below meth c g nL cells slots Q (pc + 1) lv (.int (M.2.1 k0 i.toNatClampNeg) :: st) M) : WM p l e R s m args below meth c g nL cells slots Q pc lv (.int i :: .ref (g.2.2.1 k0) :: st) M := by
  subst hn
  exact fun H locs ls hl hp hs => va_iald C.hx C.hb C.hK hp.1 k0 0 (by rw [zW_at g M (zkd_lt hk (by decide)), zCell_k hk]; rfl) rfl hin d (k H locs ls hl hp hs)
theorem zm_st_m (C : zCx p l s m args meth c g own cc nL) {k0 n : Nat} (hk : zkd k0 = 15) (hn : zln k0 = n) {i x : Int32} (hin : vp_in i n) (hM : M' = (M.1, u2 M.2.1 k0 i.toNatClampNeg x, M.2.2)) (d : decode cc pc = .ok (.iastore, 1)) (k : WM p l e R s m args below meth c g nL cells slots Q (pc + 1) lv st M') : WM p l e R s m args below meth c g nL cells slots Q pc lv (.int x :: .int i :: .ref (g.2.2.1 k0) :: st) M := by
  subst hn
  subst hM
  intro H locs ls hl hp hs
  refine va_iast C.hx C.hb C.hK hp.1 (C.hdist.D M) hs k0 0 (n := zln k0) (f := M.2.1 k0) (by rw [zW_at g M (zkd_lt hk (by decide)), zCell_k hk]; rfl) rfl hin d (fun H1 locs1 hP1 hD1 hS1 => ?_)
  refine k H1 locs1 ls hl (zPic.kept hp ?_ (fun a ha hA => ?_)) hS1
  · rw [← zset_m, zCell_k hk]
    show va_P g.1 zCl ((zW g M).set k0 (g.2.2.1 k0, .inl (g.2.1 0, zln k0, .inl (u2 M.2.1 k0 _ _ k0)))) H1
    rw [u2_same]
    exact hP1
  · exact zOld C hs hS1 a ha hA
theorem zm_ld_xc (C : zCx p l s m args meth c g own cc nL) {k0 n : Nat} (hk : zkd k0 = 6) (hn : zln k0 = n) {i : Int32} (hin : vp_in i n) (d : decode cc pc = .ok (.caload, 1)) (k : WM p l e R s m args below meth c g nL cells slots Q (pc + 1) lv (.int (M.1 k0 i.toNatClampNeg) :: st) M) : WM p l e R s m args below meth c g nL cells slots Q pc lv (.int i :: .ref (g.2.2.1 k0) :: st) M := by
  subst hn
  exact fun H locs ls hl hp hs => va_cald C.hx C.hb C.hK hp.1 k0 1 (by rw [zW_at g M (zkd_lt hk (by decide)), zCell_k hk]; rfl) rfl hin d (k H locs ls hl hp hs)
theorem zm_st_xc (C : zCx p l s m args meth c g own cc nL) {k0 n : Nat} (hk : zkd k0 = 6) (hn : zln k0 = n) {i x : Int32} (hin : vp_in i n) (hM : M' = (u2 M.1 k0 i.toNatClampNeg (vp_nar .char x), M.2)) (d : decode cc pc = .ok (.castore, 1)) (k : WM p l e R s m args below meth c g nL cells slots Q (pc + 1) lv st M') : WM p l e R s m args below meth c g nL cells slots Q pc lv (.int x :: .int i :: .ref (g.2.2.1 k0) :: st) M := by
  subst hn
  subst hM
  intro H locs ls hl hp hs
  refine va_cast C.hx C.hb C.hK hp.1 (C.hdist.D M) hs k0 1 (n := zln k0) (f := M.1 k0) (by rw [zW_at g M (zkd_lt hk (by decide)), zCell_k hk]; rfl) rfl hin d (fun H1 locs1 hP1 hD1 hS1 => ?_)
  refine k H1 locs1 ls hl (zPic.kept hp ?_ (fun a ha hA => ?_)) hS1
  · rw [← zset_x, zCell_k hk]
    show va_P g.1 zCl ((zW g M).set k0 (g.2.2.1 k0, .inl (g.2.1 1, zln k0, .inl (u2 M.1 k0 _ _ k0)))) H1
    rw [u2_same]
    exact hP1
  · exact zOld C hs hS1 a ha hA
theorem zm_ld_mc (C : zCx p l s m args meth c g own cc nL) {k0 n : Nat} (hk : zkd k0 = 16) (hn : zln k0 = n) {i : Int32} (hin : vp_in i n) (d : decode cc pc = .ok (.caload, 1)) (k : WM p l e R s m args below meth c g nL cells slots Q (pc + 1) lv (.int (M.2.1 k0 i.toNatClampNeg) :: st) M) : WM p l e R s m args below meth c g nL cells slots Q pc lv (.int i :: .ref (g.2.2.1 k0) :: st) M := by
  subst hn
  exact fun H locs ls hl hp hs => va_cald C.hx C.hb C.hK hp.1 k0 1 (by rw [zW_at g M (zkd_lt hk (by decide)), zCell_k hk]; rfl) rfl hin d (k H locs ls hl hp hs)
theorem zm_st_mc (C : zCx p l s m args meth c g own cc nL) {k0 n : Nat} (hk : zkd k0 = 16) (hn : zln k0 = n) {i x : Int32} (hin : vp_in i n) (hM : M' = (M.1, u2 M.2.1 k0 i.toNatClampNeg (vp_nar .char x), M.2.2)) (d : decode cc pc = .ok (.castore, 1)) (k : WM p l e R s m args below meth c g nL cells slots Q (pc + 1) lv st M') : WM p l e R s m args below meth c g nL cells slots Q pc lv (.int x :: .int i :: .ref (g.2.2.1 k0) :: st) M := by
  subst hn
  subst hM
  intro H locs ls hl hp hs
  refine va_cast C.hx C.hb C.hK hp.1 (C.hdist.D M) hs k0 1 (n := zln k0) (f := M.2.1 k0) (by rw [zW_at g M (zkd_lt hk (by decide)), zCell_k hk]; rfl) rfl hin d (fun H1 locs1 hP1 hD1 hS1 => ?_)
  refine k H1 locs1 ls hl (zPic.kept hp ?_ (fun a ha hA => ?_)) hS1
  · rw [← zset_m, zCell_k hk]
    show va_P g.1 zCl ((zW g M).set k0 (g.2.2.1 k0, .inl (g.2.1 1, zln k0, .inl (u2 M.2.1 k0 _ _ k0)))) H1
    rw [u2_same]
    exact hP1
  · exact zOld C hs hS1 a ha hA
theorem zm_ldL (C : zCx p l s m args meth c g own cc nL) {i : Int32} (hin : vp_in i 1) (d : decode cc pc = .ok (.laload, 1)) (k : WM p l e R s m args below meth c g nL cells slots Q (pc + 1) lv (.long (M.2.2.1 i.toNatClampNeg) :: st) M) : WM p l e R s m args below meth c g nL cells slots Q pc lv (.int i :: .ref (g.2.2.1 131) :: st) M :=
  fun H locs ls hl hp hs => va_lald C.hx C.hb C.hK hp.1 131 2 (n := 1) (f := M.2.2.1) (by rw [zW_at g M (by decide), zCell_k (n := 17) rfl]; rfl) rfl hin d (k H locs ls hl hp hs)
theorem zm_stL (C : zCx p l s m args meth c g own cc nL) {i : Int32} {x : Int64} (hin : vp_in i 1) (hM : M' = (M.1, M.2.1, vp_updL M.2.2.1 i.toNatClampNeg x, M.2.2.2)) (d : decode cc pc = .ok (.lastore, 1)) (k : WM p l e R s m args below meth c g nL cells slots Q (pc + 1) lv st M') : WM p l e R s m args below meth c g nL cells slots Q pc lv (.long x :: .int i :: .ref (g.2.2.1 131) :: st) M := by
  subst hM
  intro H locs ls hl hp hs
  refine va_last C.hx C.hb C.hK hp.1 (C.hdist.D M) hs 131 2 (n := 1) (f := M.2.2.1) (by rw [zW_at g M (by decide), zCell_k (n := 17) rfl]; rfl) rfl hin d (fun H1 locs1 hP1 hD1 hS1 => ?_)
  refine k H1 locs1 ls hl (zPic.kept hp ?_ (zOld C hs hS1)) hS1
  rw [← zset_L (fun j h => zOne17 h), zCell_k (n := 17) rfl]
  exact hP1
theorem zm_ldD (C : zCx p l s m args meth c g own cc nL) {i : Int32} (hin : vp_in i 1) (d : decode cc pc = .ok (.daload, 1)) (k : WM p l e R s m args below meth c g nL cells slots Q (pc + 1) lv (.double (M.2.2.2 i.toNatClampNeg) :: st) M) : WM p l e R s m args below meth c g nL cells slots Q pc lv (.int i :: .ref (g.2.2.1 132) :: st) M :=
  fun H locs ls hl hp hs => va_dald C.hx C.hb C.hK hp.1 132 3 (n := 1) (f := M.2.2.2) (by rw [zW_at g M (by decide), zCell_k (n := 18) rfl]; rfl) rfl hin d (k H locs ls hl hp hs)
theorem zm_stD (C : zCx p l s m args meth c g own cc nL) {i : Int32} {x : UInt64} (hin : vp_in i 1) (hM : M' = (M.1, M.2.1, M.2.2.1, vf_upd M.2.2.2 i.toNatClampNeg x)) (d : decode cc pc = .ok (.dastore, 1)) (k : WM p l e R s m args below meth c g nL cells slots Q (pc + 1) lv st M') : WM p l e R s m args below meth c g nL cells slots Q pc lv (.double x :: .int i :: .ref (g.2.2.1 132) :: st) M := by
  subst hM
  intro H locs ls hl hp hs
  refine va_dast C.hx C.hb C.hK hp.1 (C.hdist.D M) hs 132 3 (n := 1) (f := M.2.2.2) (by rw [zW_at g M (by decide), zCell_k (n := 18) rfl]; rfl) rfl hin d (fun H1 locs1 hP1 hD1 hS1 => ?_)
  refine k H1 locs1 ls hl (zPic.kept hp ?_ (zOld C hs hS1)) hS1
  rw [← zset_D (fun j h => zOne18 h), zCell_k (n := 18) rfl]
  exact hP1
theorem zm_ldS (C : zCx p l s m args meth c g own cc nL) {k0 : Nat} (hk : zkd k0 = 8) {i : Int32} (hin : vp_in i 8) (d : decode cc pc = .ok (.aaload, 1)) (k : WM p l e R s m args below meth c g nL cells slots Q (pc + 1) lv (.ref (g.2.2.1 (k0 + 1 + 8 * i.toNatClampNeg)) :: st) M) : WM p l e R s m args below meth c g nL cells slots Q pc lv (.int i :: .ref (g.2.2.1 k0) :: st) M :=
  fun H locs ls hl hp hs => va_aldq C.hx C.hb C.hK hp.1 k0 4 (n := 8) (f := fun j => some (g.2.2.1 (k0 + 1 + 8 * j))) (by rw [zW_at g M (zkd_lt hk (by decide)), zCell_k hk]; rfl) rfl hin d (k H locs ls hl hp hs)
theorem zm_len_x (C : zCx p l s m args meth c g own cc nL) {k0 n : Nat} (hk : zkd k0 = 5) (hn : zln k0 = n) (d : decode cc pc = .ok (.arraylength, 1)) (k : WM p l e R s m args below meth c g nL cells slots Q (pc + 1) lv (.int (Int32.ofNat n) :: st) M) : WM p l e R s m args below meth c g nL cells slots Q pc lv (.ref (g.2.2.1 k0) :: st) M := by
  subst hn
  exact fun H locs ls hl hp hs => va_alen C.hx C.hb C.hK hp.1 k0 0 (x := (zln k0, .inl (M.1 k0))) (by rw [zW_at g M (zkd_lt hk (by decide)), zCell_k hk]; rfl) rfl rfl d (k H locs ls hl hp hs)
theorem zm_len_xc (C : zCx p l s m args meth c g own cc nL) {k0 n : Nat} (hk : zkd k0 = 6) (hn : zln k0 = n) (d : decode cc pc = .ok (.arraylength, 1)) (k : WM p l e R s m args below meth c g nL cells slots Q (pc + 1) lv (.int (Int32.ofNat n) :: st) M) : WM p l e R s m args below meth c g nL cells slots Q pc lv (.ref (g.2.2.1 k0) :: st) M := by
  subst hn
  exact fun H locs ls hl hp hs => va_alen C.hx C.hb C.hK hp.1 k0 1 (x := (zln k0, .inl (M.1 k0))) (by rw [zW_at g M (zkd_lt hk (by decide)), zCell_k hk]; rfl) rfl rfl d (k H locs ls hl hp hs)
theorem zm_len_m (C : zCx p l s m args meth c g own cc nL) {k0 n : Nat} (hk : zkd k0 = 15) (hn : zln k0 = n) (d : decode cc pc = .ok (.arraylength, 1)) (k : WM p l e R s m args below meth c g nL cells slots Q (pc + 1) lv (.int (Int32.ofNat n) :: st) M) : WM p l e R s m args below meth c g nL cells slots Q pc lv (.ref (g.2.2.1 k0) :: st) M := by
  subst hn
  exact fun H locs ls hl hp hs => va_alen C.hx C.hb C.hK hp.1 k0 0 (x := (zln k0, .inl (M.2.1 k0))) (by rw [zW_at g M (zkd_lt hk (by decide)), zCell_k hk]; rfl) rfl rfl d (k H locs ls hl hp hs)
theorem zm_len_mc (C : zCx p l s m args meth c g own cc nL) {k0 n : Nat} (hk : zkd k0 = 16) (hn : zln k0 = n) (d : decode cc pc = .ok (.arraylength, 1)) (k : WM p l e R s m args below meth c g nL cells slots Q (pc + 1) lv (.int (Int32.ofNat n) :: st) M) : WM p l e R s m args below meth c g nL cells slots Q pc lv (.ref (g.2.2.1 k0) :: st) M := by
  subst hn
  exact fun H locs ls hl hp hs => va_alen C.hx C.hb C.hK hp.1 k0 1 (x := (zln k0, .inl (M.2.1 k0))) (by rw [zW_at g M (zkd_lt hk (by decide)), zCell_k hk]; rfl) rfl rfl d (k H locs ls hl hp hs)
theorem zm_len_S (C : zCx p l s m args meth c g own cc nL) {k0 : Nat} (hk : zkd k0 = 8) (d : decode cc pc = .ok (.arraylength, 1)) (k : WM p l e R s m args below meth c g nL cells slots Q (pc + 1) lv (.int (Int32.ofNat 8) :: st) M) : WM p l e R s m args below meth c g nL cells slots Q pc lv (.ref (g.2.2.1 k0) :: st) M :=
  fun H locs ls hl hp hs => va_alen C.hx C.hb C.hK hp.1 k0 4 (x := (8, .inr (.inr (.inr (.inr (fun j => some (g.2.2.1 (k0 + 1 + 8 * j)))))))) (by rw [zW_at g M (zkd_lt hk (by decide)), zCell_k hk]; rfl) rfl rfl d (k H locs ls hl hp hs)
theorem zm_copy (C : zCx p l s m args meth c g own cc nL) {k0 k1 n0 n1 index : Nat} (hk0 : zkd k0 = 5) (hk1 : zkd k1 = 5) (hn0 : zln k0 = n0) (hn1 : zln k1 = n1) {n : Int32} (h3 : ¬ n < 0) (h4 : n.toNatClampNeg ≤ n0) (h5 : n.toNatClampNeg ≤ n1) (hM : M' = (u1 M.1 k1 (va_cpy (M.1 k0) (M.1 k1) 0 0 n.toNatClampNeg), M.2))
    (hw1 : Cond.methodLink own index arraycopyName ∈ TB) (hw2 : Cond.native arraycopyName ∈ TB) (hw3 : Cond.static arraycopyName ∈ TB) (hw4 : Cond.initialized "java/lang/System" ∈ TB) (hframes : 1 ≤ R.frames) (hlocals : (st.map fun v => v.category).sum + (nativeFrameWords "java/lang/System" "arraycopy" 5 + 11) ≤ R.locals) (d : decode cc pc = .ok (.invokestatic index, 3))
    (k : WM p l e R s m args below meth c g nL cells slots Q (pc + 3) lv st M') : WM p l e R s m args below meth c g nL cells slots Q pc lv (.int n :: .int 0 :: .ref (g.2.2.1 k1) :: .int 0 :: .ref (g.2.2.1 k0) :: st) M := by
  subst hn0
  subst hn1
  subst hM
  intro H locs ls hl hp hs
  refine va_copyi C.hx C.hb (by rw [C.hml]; exact hl.1.symm) C.hown (C.ht _ hw1) (C.ht _ hw2) (C.ht _ hw3) (C.ht _ hw4) C.hK hp.1 (C.hdist.D M) hs k0 k1 0 0 (n0 := zln k0) (n1 := zln k1) (f := M.1 k0) (g := M.1 k1) (by rw [zW_at g M (zkd_lt hk0 (by decide)), zCell_k hk0]; rfl) (by rw [zW_at g M (zkd_lt hk1 (by decide)), zCell_k hk1]; rfl) rfl rfl rfl (by decide) (by decide) h3 (by simpa using h4) (by simpa using h5) (fun _ _ => rfl) hframes hlocals d (fun H1 locs1 hP1 hD1 hS1 => ?_)
  refine k H1 locs1 ls hl (zPic.kept hp ?_ (zOld C hs hS1)) hS1
  rw [← zset_x1, zCell_k hk1]
  show va_P g.1 zCl ((zW g M).set k1 (g.2.2.1 k1, .inl (g.2.1 0, zln k1, .inl (u1 M.1 k1 _ k1)))) H1
  rw [u1_same]
  exact hP1
theorem zm_mmax (C : zCx p l s m args meth c g own cc nL) {index : Nat} {x y : Int32} (hw1 : Cond.methodLink own index Lib.Math.max.name ∈ TB) (hw2 : Cond.static Lib.Math.max.name ∈ TB) (hw3 : Cond.initialized "java/lang/Math" ∈ TB) (hw4 : Cond.code Lib.Math.max.name Lib.Math.max.code 2 (some .int) ∈ TB) (hframes : 1 ≤ R.frames) (hlocals : (st.map fun v => v.category).sum + 13 ≤ R.locals) (hc : cells ≤ R.cells) (hs0 : slots ≤ R.slots) (d : decode cc pc = .ok (.invokestatic index, 3)) (k : WM p l e R s m args below meth c g nL cells slots Q (pc + 3) lv (.int (if x < y then y else x) :: st) M) : WM p l e R s m args below meth c g nL cells slots Q pc lv (.int y :: .int x :: st) M :=
  fun H locs ls hl hp hs => va_mmax C.hx C.hb (by rw [C.hml]; exact hl.1.symm) C.hown (C.ht _ hw1) (C.ht _ hw2) (C.ht _ hw3) (C.ht _ hw4) hframes hlocals hc hs0 d (k H locs ls hl hp hs)
theorem zm_mmin (C : zCx p l s m args meth c g own cc nL) {index : Nat} {x y : Int32} (hw1 : Cond.methodLink own index Lib.Math.min.name ∈ TB) (hw2 : Cond.static Lib.Math.min.name ∈ TB) (hw3 : Cond.initialized "java/lang/Math" ∈ TB) (hw4 : Cond.code Lib.Math.min.name Lib.Math.min.code 2 (some .int) ∈ TB) (hframes : 1 ≤ R.frames) (hlocals : (st.map fun v => v.category).sum + 13 ≤ R.locals) (hc : cells ≤ R.cells) (hs0 : slots ≤ R.slots) (d : decode cc pc = .ok (.invokestatic index, 3)) (k : WM p l e R s m args below meth c g nL cells slots Q (pc + 3) lv (.int (if y < x then y else x) :: st) M) : WM p l e R s m args below meth c g nL cells slots Q pc lv (.int y :: .int x :: st) M :=
  fun H locs ls hl hp hs => va_mmin C.hx C.hb (by rw [C.hml]; exact hl.1.symm) C.hown (C.ht _ hw1) (C.ht _ hw2) (C.ht _ hw3) (C.ht _ hw4) hframes hlocals hc hs0 d (k H locs ls hl hp hs)
theorem zm_iret (C : zCx p l s m args meth c g own cc nL) {Qp : Int32 → Mem → Prop} {v : Int32} (hr : meth.sig.returnType = some .int) (d : decode cc pc = .ok (.ireturn, 1)) (hq : Qp v M) : WM p l e R s m args below meth c g nL cells slots (MQ below (zQi g Qp) args s cells slots (zA g)) pc lv [.int v] M :=
  fun H locs ls hl hp hs => W.iret C.hx C.hb hr (fun t ht hW => ⟨⟨v, M, rfl, hq, by unfold zB; rw [ht]; exact hp.moved hW.alike⟩, hs.F ht⟩) hs.2.2 d (hlocks := C.hlocks)
theorem zm_lret (C : zCx p l s m args meth c g own cc nL) {Qp : Int64 → Mem → Prop} {v : Int64} (hr : meth.sig.returnType = some .long) (d : decode cc pc = .ok (.lreturn, 1)) (hq : Qp v M) : WM p l e R s m args below meth c g nL cells slots (MQ below (zQl g Qp) args s cells slots (zA g)) pc lv [.long v] M :=
  fun H locs ls hl hp hs => W.lret C.hx C.hb hr (fun t ht hW => ⟨⟨v, M, rfl, hq, by unfold zB; rw [ht]; exact hp.moved hW.alike⟩, hs.F ht⟩) hs.2.2 d (hlocks := C.hlocks)
theorem zm_fret (C : zCx p l s m args meth c g own cc nL) {Qp : UInt32 → Mem → Prop} {v : UInt32} (hr : meth.sig.returnType = some .float) (d : decode cc pc = .ok (.freturn, 1)) (hq : Qp v M) : WM p l e R s m args below meth c g nL cells slots (MQ below (zQf g Qp) args s cells slots (zA g)) pc lv [.float v] M :=
  fun H locs ls hl hp hs => W.fret C.hx C.hb hr (fun t ht hW => ⟨⟨v, M, rfl, hq, by unfold zB; rw [ht]; exact hp.moved hW.alike⟩, hs.F ht⟩) hs.2.2 d (hlocks := C.hlocks)
theorem zm_dret (C : zCx p l s m args meth c g own cc nL) {Qp : UInt64 → Mem → Prop} {v : UInt64} (hr : meth.sig.returnType = some .double) (d : decode cc pc = .ok (.dreturn, 1)) (hq : Qp v M) : WM p l e R s m args below meth c g nL cells slots (MQ below (zQd g Qp) args s cells slots (zA g)) pc lv [.double v] M :=
  fun H locs ls hl hp hs => W.dret C.hx C.hb hr (fun t ht hW => ⟨⟨v, M, rfl, hq, by unfold zB; rw [ht]; exact hp.moved hW.alike⟩, hs.F ht⟩) hs.2.2 d (hlocks := C.hlocks)
theorem zm_zret (C : zCx p l s m args meth c g own cc nL) {Qp : Int32 → Mem → Prop} {v : Int32} {ty : FieldType} (hr : meth.sig.returnType = some ty) (hn : narrow ty (.int v) = .int v) (d : decode cc pc = .ok (.ireturn, 1)) (hq : Qp v M) : WM p l e R s m args below meth c g nL cells slots (MQ below (zQi g Qp) args s cells slots (zA g)) pc lv [.int v] M :=
  fun H locs ls hl hp hs => W.zret C.hx C.hb hr hn (fun t ht hW => ⟨⟨v, M, rfl, hq, by unfold zB; rw [ht]; exact hp.moved hW.alike⟩, hs.F ht⟩) hs.2.2 d (hlocks := C.hlocks)
theorem zm_vret (C : zCx p l s m args meth c g own cc nL) {Qp : Mem → Prop} (hr : meth.sig.returnType = none) (d : decode cc pc = .ok (.return_, 1)) (hq : Qp M) : WM p l e R s m args below meth c g nL cells slots (MQ below (zQv g Qp) args s cells slots (zA g)) pc lv [] M :=
  fun H locs ls hl hp hs => W.vret C.hx C.hb hr (fun t ht hW => ⟨⟨M, rfl, hq, by unfold zB; rw [ht]; exact hp.moved hW.alike⟩, hs.F ht⟩) hs.2.2 d (hlocks := C.hlocks)
theorem zm_aretN (C : zCx p l s m args meth c g own cc nL) {Qp : Option Nat → Mem → Prop} {n : String} (hr : meth.sig.returnType = some (.object n)) (d : decode cc pc = .ok (.areturn, 1)) (hq : Qp none M) : WM p l e R s m args below meth c g nL cells slots (MQ below (zQq g Qp) args s cells slots (zA g)) pc lv [.null] M :=
  fun H locs ls hl hp hs => W.aret C.hx C.hb hr (Or.inl ⟨_, rfl⟩) (Or.inl rfl) (fun t ht hW => ⟨⟨none, M, rfl, ⟨none, rfl, hq⟩, by unfold zB; rw [ht]; exact hp.moved hW.alike⟩, hs.F ht⟩) hs.2.2 d (hlocks := C.hlocks)
theorem zm_aretR (C : zCx p l s m args meth c g own cc nL) {Qp : Option Nat → Mem → Prop} {n : String} {k0 : Nat} (hr : meth.sig.returnType = some (.object n)) (d : decode cc pc = .ok (.areturn, 1)) (hq : Qp (some k0) M) : WM p l e R s m args below meth c g nL cells slots (MQ below (zQq g Qp) args s cells slots (zA g)) pc lv [.ref (g.2.2.1 k0)] M :=
  fun H locs ls hl hp hs => W.aret C.hx C.hb hr (Or.inl ⟨_, rfl⟩) (Or.inr ⟨_, rfl⟩) (fun t ht hW => ⟨⟨some (g.2.2.1 k0), M, rfl, ⟨some k0, rfl, hq⟩, by unfold zB; rw [ht]; exact hp.moved hW.alike⟩, hs.F ht⟩) hs.2.2 d (hlocks := C.hlocks)
theorem zm_vx {Qc : Array Value → State → Outcome → State → Prop} {XC : String → State → State → Prop} {mc ms : Nat} (h1 : cells ≤ mc) (h2 : slots ≤ ms) (k : WM p l e R s m args below meth c g nL mc ms (MQ below Qc args s mc ms (zA g)) pc lv st M) : WM p l e R s m args below meth c g nL cells slots (vx_MQ below Qc XC args s mc ms (zA g)) pc lv st M :=
  fun H locs ls hl hp hs => W.widen h1 h2 (vx_ret (k H locs ls hl hp hs))
theorem zm_out (C : zCx p l s m args meth c g own cc nL) {Qc : Array Value → State → Outcome → State → Prop} {Xp : String → Mem → Prop} {E : String} {mc ms : Nat} (ht : ∀ x ∈ c.exceptionTable.toList, False) (h1 : cells ≤ mc) (h2 : slots ≤ ms) (hq : Xp E M) : WX p l e R s m args below meth c g nL cells slots (vx_MQ below Qc (zXC g Xp) args s mc ms (zA g)) pc lv E M :=
  fun H locs ls ce q st hl hp hs hce hcv hcl => vx_out (fun x hx => (ht x hx).elim) C.hlocks hce hcv hcl (fun t ht hal => ⟨M, trivial, ⟨hq, by rw [ht]; exact hp.moved hal⟩, hs.F ht⟩) hs.2.2 h1 h2
end ZR
