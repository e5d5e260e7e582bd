/-! methods with a table of their own that catch what they call: rows -/
theorem zMetT {l : Launch} {y : MethodName} {cc : ByteArray} {mL : Nat} {ret : Option FieldType} {rm : Room} {g : GE} {M : Mem} {av : List Value} {Qc : Array Value → State → Outcome → State → Prop} {mc ms : Nat} {own : String} {hh : List (Nat × Nat × Nat × Nat)} (lv0 : List (Nat × Value)) (hy : plainName y.cls = true) (ho : y.cls = own) (hav : (lg_sl av).length ≤ mL) (hlv : lv_args 0 av = lv0)
    (body : ∀ p e s m args below meth c, zCx p l s m args meth c g own cc mL → meth.sig.returnType = ret → c.exceptionTable.toList = tableOf hh → WM p l e rm s m args below meth c g mL 0 0 (MQ below Qc args s mc ms (zA g)) 0 lv0 [] M) : Met l y (Cond.codeWith y cc mL ret hh :: TB) rm (zPc g M av) Qc mc ms (zA g) := by
  refine MetFree.of_bodyS (code := cc) (maxLocals := mL) (ret := ret) hy ?_ ?_
  · intro args s m h hn
    obtain ⟨m9, meth, c, hn9, h1, h2, h3, h4, -, h5, h6, -⟩ := Cond.codeWith_spec (atoms_spec (ws := Cond.codeWith y cc mL ret hh :: TB) h _ List.mem_cons_self)
    cases hn.symm.trans hn9
    exact ⟨meth, c, h1, h2, h3, h4, h5, h6⟩
  · intro p e s m args below meth c s₁ B hml hv _
    obtain ⟨rfl, hpic, hfix, hdist, hbase⟩ := hv
    have hts := atoms_spec (ws := Cond.codeWith y cc mL ret hh :: TB) B.pre
    have ht := vx_table (x := y) B (hts _ List.mem_cons_self)
    have hh0 : s₁.heap = s.heap := by rw [B.state]; rfl
    subst ho
    subst hlv
    have K := body p e s m _ below meth c ⟨B.exec, B.bytes, hml, findClass_of_methodNamed B.named, fun w hw => hts w (List.mem_cons_of_mem _ hw), B.notSynchronized, hfix, hdist, hbase⟩ B.returns ht s.heap [] _ (lv_entry av hav) hpic va_S.rf
    rw [← lg_entry_eq] at K
    obtain ⟨t, a1, o, b1, b2, b3, b4⟩ := K s₁ hh0 (Stand.of_body B)
    exact ⟨t, o, a1, b1, b2, b3, b4⟩
section ZT
variable {p : Program} {l : Launch} {e : Env} {R : Room} {s : State} {m : MethodId} {args : Array Value} {below : List Frame} {meth : Method} {c : Code} {g : GE} {own : String} {cc : ByteArray} {nL cells slots mc ms : Nat} {Q : State → Prop} {pc : Nat} {lv lv' : List (Nat × Value)} {st st0 rest As : List Value} {M M' : Mem}
variable {y : MethodName} {bytes : ByteArray} {mL index n : Nat} {ret : Option FieldType} {rm : Room} {Qc : Array Value → State → Outcome → State → Prop} {hh : List (Nat × Nat × Nat × Nat)}
theorem zr_SW (C : zCx p l s m args meth c g own cc nL) (hM : Met l y (Cond.codeWith y bytes mL ret hh :: TB) rm (zPc g M As) Qc mc ms (zA g)) (w1 : Cond.methodLink own index y ∈ TB) (w2 : Cond.static y ∈ TB) (w3 : Cond.initialized y.cls ∈ TB) (w5 : Cond.codeWith y bytes mL ret hh ∈ TB) (hy : y.cls ≠ "java/lang/invoke/MethodHandle" ∧ y.cls ≠ "java/lang/invoke/VarHandle" ∧ (parseMethodDescriptor y.desc).map (fun d => d.parameters.length) = some n) (hrc : rm.cells = mc) (hrs : rm.slots = ms) (hR : rm.frames + 1 ≤ R.frames ∧ 8 + (mL + 11) + rm.locals ≤ R.locals) (hf : cells + mc ≤ R.cells ∧ slots + ms ≤ R.slots) (hn : As.length = n) (hst : st0 = As.reverse ++ rest) (hroom : (rest.map fun v => v.category).sum ≤ 8) (d : decode cc pc = .ok (.invokestatic index, 3)) : zRun p l e R s m args below meth c g nL cells slots mc ms pc lv st0 rest M (Qc (As).toArray) :=
  fun H locs ls hl hp hs => vx_runSW ⟨C.hx, C.hb, C.hml, C.hown, C.ht⟩ hM (vx_cwSW n C.ht (zGoodA (zMem3 w1 w2 w3) (zGood1 w5)) rfl hrc hrs hy hR) (zPre C hp hs As) rfl hn hl.1 hst (lv_room hroom) d hf
theorem zm_catch (C : zCx p l s m args meth c g own cc nL) {E name : String} (pre : List ExceptionTableEntry) (x : ExceptionTableEntry) (suf : List ExceptionTableEntry) (hsplit : c.exceptionTable.toList = pre ++ x :: suf)
    (hpass : ∀ z ∈ pre, covers z pc = false ∨ (z.catchType ≠ 0 ∧ ∃ nm : String, Cond.classLink own z.catchType nm ∈ TB ∧ (E, nm) ∈ zNc)) (hx : covers x pc = true) (h0 : x.catchType ≠ 0) (hlink : Cond.classLink own x.catchType name ∈ TB) (hcast : Cond.castable E name ∈ TN)
    (k : ∀ q : Addr, WM p l e R s m args below meth c g nL cells slots Q x.handlerPc lv [.ref q] M) : WX p l e R s m args below meth c g nL cells slots Q pc lv E M :=
  fun H locs ls ce q st hl hp hs hce hcv hcl => vx_catch C.hown pre x suf hsplit (fun z hz => (hpass z hz).imp id (fun h => ⟨h.1, h.2.imp fun nm h2 => ⟨C.ht _ h2.1, C.hfix.2.2.2 _ h2.2⟩⟩)) hx h0 (C.ht _ hlink) (va_Nw.use rfl (C.nw hcast)) hce hcv hcl (k q H locs ls hl hp hs)
end ZT
theorem zIn01 : vp_in (0 : Int32) 1 := by unfold vp_in; decide
def zPl (v : MU) (dd : Nat → UInt64) (Q : Int32 → MU → (Nat → Int64) → Prop) : Int32 → Mem → Prop := fun r M1 => ∃ u o, M1 = (u, v, o, dd) ∧ Q r u o
def zPd (v : MU) (ll : Nat → Int64) (Q : Int32 → MU → (Nat → UInt64) → Prop) : Int32 → Mem → Prop := fun r M1 => ∃ u o, M1 = (u, v, ll, o) ∧ Q r u o
theorem wd_377 : (Jvm.Cond.castable "java/lang/UnsupportedOperationException" "java/lang/UnsupportedOperationException") ∈ TN := zTN 377 (by decide +kernel) (by decide +kernel)
theorem wd_714 : (Jvm.Cond.castable "java/util/NoSuchElementException" "java/util/NoSuchElementException") ∈ TN := zTN 714 (by decide +kernel) (by decide +kernel)
theorem wd_738 : (Jvm.Cond.castable "java/lang/IllegalArgumentException" "java/lang/IllegalArgumentException") ∈ TN := zTN 738 (by decide +kernel) (by decide +kernel)
theorem wd_892 : (Jvm.Cond.castable "java/lang/IndexOutOfBoundsException" "java/lang/IndexOutOfBoundsException") ∈ TN := zTN 892 (by decide +kernel) (by decide +kernel)
theorem wd_959 : (Jvm.Cond.castable "java/lang/IllegalStateException" "java/lang/IllegalStateException") ∈ TN := zTN 959 (by decide +kernel) (by decide +kernel)
theorem wd_1042 : (Jvm.Cond.castable "java/lang/ArithmeticException" "java/lang/ArithmeticException") ∈ TN := zTN 1042 (by decide +kernel) (by decide +kernel)
theorem wd_346 : (Jvm.Cond.classLink "FoxBurrowsLaw" (13 : Nat) "java/lang/UnsupportedOperationException") ∈ TB := zTB 346 (by decide +kernel) (by decide +kernel)
theorem wd_347 : (Jvm.Cond.methodLink "FoxBurrowsLaw" (7 : Nat) ({ cls := "FoxBurrows", name := "dig", desc := "()I" } : Jvm.MethodName)) ∈ TB := zTB 347 (by decide +kernel) (by decide +kernel)
theorem wd_348 : (Jvm.Cond.instanceMethod ({ cls := "FoxBurrows", name := "dig", desc := "()I" } : Jvm.MethodName)) ∈ TB := zTB 348 (by decide +kernel) (by decide +kernel)
theorem wd_349 : (Jvm.Cond.selects "FoxBurrows" ({ cls := "FoxBurrows", name := "dig", desc := "()I" } : Jvm.MethodName) ({ cls := "FoxBurrows", name := "dig", desc := "()I" } : Jvm.MethodName)) ∈ TB := zTB 349 (by decide +kernel) (by decide +kernel)
theorem wd_350 : (Jvm.Cond.code ({ cls := "FoxBurrows", name := "dig", desc := "()I" } : Jvm.MethodName) prog_1_method_2_code (1 : Nat) (Option.some Jvm.ClassFile.FieldType.int)) ∈ TB := zTB 350 (by decide +kernel) (by decide +kernel)
theorem wd_460 : (Jvm.Cond.methodLink "FoxBurrowsLaw" (15 : Nat) ({ cls := "FoxBurrows", name := "tread", desc := "(II)I" } : Jvm.MethodName)) ∈ TB := zTB 460 (by decide +kernel) (by decide +kernel)
theorem wd_461 : (Jvm.Cond.instanceMethod ({ cls := "FoxBurrows", name := "tread", desc := "(II)I" } : Jvm.MethodName)) ∈ TB := zTB 461 (by decide +kernel) (by decide +kernel)
theorem wd_462 : (Jvm.Cond.selects "FoxBurrows" ({ cls := "FoxBurrows", name := "tread", desc := "(II)I" } : Jvm.MethodName) ({ cls := "FoxBurrows", name := "tread", desc := "(II)I" } : Jvm.MethodName)) ∈ TB := zTB 462 (by decide +kernel) (by decide +kernel)
theorem wd_463 : (Jvm.Cond.code ({ cls := "FoxBurrows", name := "tread", desc := "(II)I" } : Jvm.MethodName) prog_1_method_3_code (3 : Nat) (Option.some Jvm.ClassFile.FieldType.int)) ∈ TB := zTB 463 (by decide +kernel) (by decide +kernel)
theorem wd_498 : (Jvm.Cond.methodLink "FoxBurrowsLaw" (19 : Nat) ({ cls := "FoxBurrows", name := "grow", desc := "(II)I" } : Jvm.MethodName)) ∈ TB := zTB 498 (by decide +kernel) (by decide +kernel)
theorem wd_499 : (Jvm.Cond.instanceMethod ({ cls := "FoxBurrows", name := "grow", desc := "(II)I" } : Jvm.MethodName)) ∈ TB := zTB 499 (by decide +kernel) (by decide +kernel)
theorem wd_500 : (Jvm.Cond.selects "FoxBurrows" ({ cls := "FoxBurrows", name := "grow", desc := "(II)I" } : Jvm.MethodName) ({ cls := "FoxBurrows", name := "grow", desc := "(II)I" } : Jvm.MethodName)) ∈ TB := zTB 500 (by decide +kernel) (by decide +kernel)
theorem wd_501 : (Jvm.Cond.code ({ cls := "FoxBurrows", name := "grow", desc := "(II)I" } : Jvm.MethodName) prog_1_method_4_code (3 : Nat) (Option.some Jvm.ClassFile.FieldType.int)) ∈ TB := zTB 501 (by decide +kernel) (by decide +kernel)
theorem wd_513 : (Jvm.Cond.methodLink "FoxBurrowsLaw" (22 : Nat) ({ cls := "FoxBurrows", name := "trap", desc := "(IZ)I" } : Jvm.MethodName)) ∈ TB := zTB 513 (by decide +kernel) (by decide +kernel)
theorem wd_514 : (Jvm.Cond.instanceMethod ({ cls := "FoxBurrows", name := "trap", desc := "(IZ)I" } : Jvm.MethodName)) ∈ TB := zTB 514 (by decide +kernel) (by decide +kernel)
theorem wd_515 : (Jvm.Cond.selects "FoxBurrows" ({ cls := "FoxBurrows", name := "trap", desc := "(IZ)I" } : Jvm.MethodName) ({ cls := "FoxBurrows", name := "trap", desc := "(IZ)I" } : Jvm.MethodName)) ∈ TB := zTB 515 (by decide +kernel) (by decide +kernel)
theorem wd_516 : (Jvm.Cond.code ({ cls := "FoxBurrows", name := "trap", desc := "(IZ)I" } : Jvm.MethodName) prog_1_method_5_code (3 : Nat) (Option.some Jvm.ClassFile.FieldType.int)) ∈ TB := zTB 516 (by decide +kernel) (by decide +kernel)
theorem wd_534 : (Jvm.Cond.methodLink "FoxBurrowsLaw" (26 : Nat) ({ cls := "FoxBurrows", name := "flock", desc := "(I)I" } : Jvm.MethodName)) ∈ TB := zTB 534 (by decide +kernel) (by decide +kernel)
theorem wd_535 : (Jvm.Cond.instanceMethod ({ cls := "FoxBurrows", name := "flock", desc := "(I)I" } : Jvm.MethodName)) ∈ TB := zTB 535 (by decide +kernel) (by decide +kernel)
theorem wd_536 : (Jvm.Cond.selects "FoxBurrows" ({ cls := "FoxBurrows", name := "flock", desc := "(I)I" } : Jvm.MethodName) ({ cls := "FoxBurrows", name := "flock", desc := "(I)I" } : Jvm.MethodName)) ∈ TB := zTB 536 (by decide +kernel) (by decide +kernel)
theorem wd_537 : (Jvm.Cond.code ({ cls := "FoxBurrows", name := "flock", desc := "(I)I" } : Jvm.MethodName) prog_1_method_6_code (2 : Nat) (Option.some Jvm.ClassFile.FieldType.int)) ∈ TB := zTB 537 (by decide +kernel) (by decide +kernel)
theorem wd_545 : (Jvm.Cond.methodLink "FoxBurrowsLaw" (30 : Nat) ({ cls := "FoxBurrows", name := "begin", desc := "(I)I" } : Jvm.MethodName)) ∈ TB := zTB 545 (by decide +kernel) (by decide +kernel)
theorem wd_546 : (Jvm.Cond.instanceMethod ({ cls := "FoxBurrows", name := "begin", desc := "(I)I" } : Jvm.MethodName)) ∈ TB := zTB 546 (by decide +kernel) (by decide +kernel)
theorem wd_547 : (Jvm.Cond.selects "FoxBurrows" ({ cls := "FoxBurrows", name := "begin", desc := "(I)I" } : Jvm.MethodName) ({ cls := "FoxBurrows", name := "begin", desc := "(I)I" } : Jvm.MethodName)) ∈ TB := zTB 547 (by decide +kernel) (by decide +kernel)
theorem wd_548 : (Jvm.Cond.code ({ cls := "FoxBurrows", name := "begin", desc := "(I)I" } : Jvm.MethodName) prog_1_method_7_code (2 : Nat) (Option.some Jvm.ClassFile.FieldType.int)) ∈ TB := zTB 548 (by decide +kernel) (by decide +kernel)
theorem wd_601 : (Jvm.Cond.methodLink "FoxBurrowsLaw" (33 : Nat) ({ cls := "FoxBurrows", name := "move", desc := "(II)I" } : Jvm.MethodName)) ∈ TB := zTB 601 (by decide +kernel) (by decide +kernel)
theorem wd_602 : (Jvm.Cond.instanceMethod ({ cls := "FoxBurrows", name := "move", desc := "(II)I" } : Jvm.MethodName)) ∈ TB := zTB 602 (by decide +kernel) (by decide +kernel)
theorem wd_603 : (Jvm.Cond.selects "FoxBurrows" ({ cls := "FoxBurrows", name := "move", desc := "(II)I" } : Jvm.MethodName) ({ cls := "FoxBurrows", name := "move", desc := "(II)I" } : Jvm.MethodName)) ∈ TB := zTB 603 (by decide +kernel) (by decide +kernel)
theorem wd_604 : (Jvm.Cond.code ({ cls := "FoxBurrows", name := "move", desc := "(II)I" } : Jvm.MethodName) prog_1_method_8_code (3 : Nat) (Option.some Jvm.ClassFile.FieldType.int)) ∈ TB := zTB 604 (by decide +kernel) (by decide +kernel)
theorem wd_642 : (Jvm.Cond.methodLink "FoxBurrowsLaw" (36 : Nat) ({ cls := "FoxBurrows", name := "play", desc := "(I)I" } : Jvm.MethodName)) ∈ TB := zTB 642 (by decide +kernel) (by decide +kernel)
theorem wd_643 : (Jvm.Cond.instanceMethod ({ cls := "FoxBurrows", name := "play", desc := "(I)I" } : Jvm.MethodName)) ∈ TB := zTB 643 (by decide +kernel) (by decide +kernel)
theorem wd_644 : (Jvm.Cond.selects "FoxBurrows" ({ cls := "FoxBurrows", name := "play", desc := "(I)I" } : Jvm.MethodName) ({ cls := "FoxBurrows", name := "play", desc := "(I)I" } : Jvm.MethodName)) ∈ TB := zTB 644 (by decide +kernel) (by decide +kernel)
theorem wd_645 : (Jvm.Cond.code ({ cls := "FoxBurrows", name := "play", desc := "(I)I" } : Jvm.MethodName) prog_1_method_9_code (2 : Nat) (Option.some Jvm.ClassFile.FieldType.int)) ∈ TB := zTB 645 (by decide +kernel) (by decide +kernel)
theorem wd_695 : (Jvm.Cond.methodLink "FoxBurrowsLaw" (39 : Nat) ({ cls := "FoxBurrows", name := "back", desc := "()I" } : Jvm.MethodName)) ∈ TB := zTB 695 (by decide +kernel) (by decide +kernel)
theorem wd_696 : (Jvm.Cond.instanceMethod ({ cls := "FoxBurrows", name := "back", desc := "()I" } : Jvm.MethodName)) ∈ TB := zTB 696 (by decide +kernel) (by decide +kernel)
theorem wd_697 : (Jvm.Cond.selects "FoxBurrows" ({ cls := "FoxBurrows", name := "back", desc := "()I" } : Jvm.MethodName) ({ cls := "FoxBurrows", name := "back", desc := "()I" } : Jvm.MethodName)) ∈ TB := zTB 697 (by decide +kernel) (by decide +kernel)
theorem wd_698 : (Jvm.Cond.code ({ cls := "FoxBurrows", name := "back", desc := "()I" } : Jvm.MethodName) prog_1_method_10_code (1 : Nat) (Option.some Jvm.ClassFile.FieldType.int)) ∈ TB := zTB 698 (by decide +kernel) (by decide +kernel)
theorem wd_706 : (Jvm.Cond.classLink "FoxBurrowsLaw" (46 : Nat) "java/util/NoSuchElementException") ∈ TB := zTB 706 (by decide +kernel) (by decide +kernel)
theorem wd_707 : (Jvm.Cond.methodLink "FoxBurrowsLaw" (42 : Nat) ({ cls := "FoxBurrows", name := "position", desc := "(IIIZ)I" } : Jvm.MethodName)) ∈ TB := zTB 707 (by decide +kernel) (by decide +kernel)
theorem wd_708 : (Jvm.Cond.instanceMethod ({ cls := "FoxBurrows", name := "position", desc := "(IIIZ)I" } : Jvm.MethodName)) ∈ TB := zTB 708 (by decide +kernel) (by decide +kernel)
theorem wd_709 : (Jvm.Cond.selects "FoxBurrows" ({ cls := "FoxBurrows", name := "position", desc := "(IIIZ)I" } : Jvm.MethodName) ({ cls := "FoxBurrows", name := "position", desc := "(IIIZ)I" } : Jvm.MethodName)) ∈ TB := zTB 709 (by decide +kernel) (by decide +kernel)
theorem wd_710 : (Jvm.Cond.code ({ cls := "FoxBurrows", name := "position", desc := "(IIIZ)I" } : Jvm.MethodName) prog_1_method_12_code (5 : Nat) (Option.some Jvm.ClassFile.FieldType.int)) ∈ TB := zTB 710 (by decide +kernel) (by decide +kernel)
theorem wd_731 : (Jvm.Cond.classLink "FoxBurrowsLaw" (51 : Nat) "java/lang/IllegalArgumentException") ∈ TB := zTB 731 (by decide +kernel) (by decide +kernel)
theorem wd_732 : (Jvm.Cond.methodLink "FoxBurrowsLaw" (48 : Nat) ({ cls := "FoxBurrows", name := "positionOf", desc := "(II)I" } : Jvm.MethodName)) ∈ TB := zTB 732 (by decide +kernel) (by decide +kernel)
theorem wd_733 : (Jvm.Cond.instanceMethod ({ cls := "FoxBurrows", name := "positionOf", desc := "(II)I" } : Jvm.MethodName)) ∈ TB := zTB 733 (by decide +kernel) (by decide +kernel)
theorem wd_734 : (Jvm.Cond.selects "FoxBurrows" ({ cls := "FoxBurrows", name := "positionOf", desc := "(II)I" } : Jvm.MethodName) ({ cls := "FoxBurrows", name := "positionOf", desc := "(II)I" } : Jvm.MethodName)) ∈ TB := zTB 734 (by decide +kernel) (by decide +kernel)
theorem wd_735 : (Jvm.Cond.code ({ cls := "FoxBurrows", name := "positionOf", desc := "(II)I" } : Jvm.MethodName) prog_1_method_13_code (3 : Nat) (Option.some Jvm.ClassFile.FieldType.int)) ∈ TB := zTB 735 (by decide +kernel) (by decide +kernel)
theorem wd_767 : (Jvm.Cond.methodLink "FoxBurrowsLaw" (53 : Nat) ({ cls := "FoxBurrows", name := "outcomeAgain", desc := "(I)I" } : Jvm.MethodName)) ∈ TB := zTB 767 (by decide +kernel) (by decide +kernel)
theorem wd_768 : (Jvm.Cond.instanceMethod ({ cls := "FoxBurrows", name := "outcomeAgain", desc := "(I)I" } : Jvm.MethodName)) ∈ TB := zTB 768 (by decide +kernel) (by decide +kernel)
theorem wd_769 : (Jvm.Cond.selects "FoxBurrows" ({ cls := "FoxBurrows", name := "outcomeAgain", desc := "(I)I" } : Jvm.MethodName) ({ cls := "FoxBurrows", name := "outcomeAgain", desc := "(I)I" } : Jvm.MethodName)) ∈ TB := zTB 769 (by decide +kernel) (by decide +kernel)
theorem wd_770 : (Jvm.Cond.code ({ cls := "FoxBurrows", name := "outcomeAgain", desc := "(I)I" } : Jvm.MethodName) prog_1_method_14_code (2 : Nat) (Option.some Jvm.ClassFile.FieldType.int)) ∈ TB := zTB 770 (by decide +kernel) (by decide +kernel)
theorem wd_796 : (Jvm.Cond.methodLink "FoxBurrowsLaw" (56 : Nat) ({ cls := "FoxBurrows", name := "moveOf", desc := "(IIZ)I" } : Jvm.MethodName)) ∈ TB := zTB 796 (by decide +kernel) (by decide +kernel)
theorem wd_797 : (Jvm.Cond.instanceMethod ({ cls := "FoxBurrows", name := "moveOf", desc := "(IIZ)I" } : Jvm.MethodName)) ∈ TB := zTB 797 (by decide +kernel) (by decide +kernel)
theorem wd_798 : (Jvm.Cond.selects "FoxBurrows" ({ cls := "FoxBurrows", name := "moveOf", desc := "(IIZ)I" } : Jvm.MethodName) ({ cls := "FoxBurrows", name := "moveOf", desc := "(IIZ)I" } : Jvm.MethodName)) ∈ TB := zTB 798 (by decide +kernel) (by decide +kernel)
theorem wd_799 : (Jvm.Cond.code ({ cls := "FoxBurrows", name := "moveOf", desc := "(IIZ)I" } : Jvm.MethodName) prog_1_method_15_code (7 : Nat) (Option.some Jvm.ClassFile.FieldType.int)) ∈ TB := zTB 799 (by decide +kernel) (by decide +kernel)
theorem wd_806 : (Jvm.Cond.methodLink "FoxBurrowsLaw" (60 : Nat) ({ cls := "FoxBurrows", name := "best", desc := "(I)I" } : Jvm.MethodName)) ∈ TB := zTB 806 (by decide +kernel) (by decide +kernel)
theorem wd_807 : (Jvm.Cond.instanceMethod ({ cls := "FoxBurrows", name := "best", desc := "(I)I" } : Jvm.MethodName)) ∈ TB := zTB 807 (by decide +kernel) (by decide +kernel)
theorem wd_808 : (Jvm.Cond.selects "FoxBurrows" ({ cls := "FoxBurrows", name := "best", desc := "(I)I" } : Jvm.MethodName) ({ cls := "FoxBurrows", name := "best", desc := "(I)I" } : Jvm.MethodName)) ∈ TB := zTB 808 (by decide +kernel) (by decide +kernel)
theorem wd_809 : (Jvm.Cond.code ({ cls := "FoxBurrows", name := "best", desc := "(I)I" } : Jvm.MethodName) prog_1_method_16_code (3 : Nat) (Option.some Jvm.ClassFile.FieldType.int)) ∈ TB := zTB 809 (by decide +kernel) (by decide +kernel)
theorem wd_814 : (Jvm.Cond.methodLink "FoxBurrowsLaw" (63 : Nat) ({ cls := "FoxBurrows", name := "after", desc := "(III)I" } : Jvm.MethodName)) ∈ TB := zTB 814 (by decide +kernel) (by decide +kernel)
theorem wd_815 : (Jvm.Cond.instanceMethod ({ cls := "FoxBurrows", name := "after", desc := "(III)I" } : Jvm.MethodName)) ∈ TB := zTB 815 (by decide +kernel) (by decide +kernel)
theorem wd_816 : (Jvm.Cond.selects "FoxBurrows" ({ cls := "FoxBurrows", name := "after", desc := "(III)I" } : Jvm.MethodName) ({ cls := "FoxBurrows", name := "after", desc := "(III)I" } : Jvm.MethodName)) ∈ TB := zTB 816 (by decide +kernel) (by decide +kernel)
theorem wd_817 : (Jvm.Cond.code ({ cls := "FoxBurrows", name := "after", desc := "(III)I" } : Jvm.MethodName) prog_1_method_17_code (4 : Nat) (Option.some Jvm.ClassFile.FieldType.int)) ∈ TB := zTB 817 (by decide +kernel) (by decide +kernel)
theorem wd_822 : (Jvm.Cond.methodLink "FoxBurrowsLaw" (67 : Nat) ({ cls := "FoxBurrows", name := "ends", desc := "(I)I" } : Jvm.MethodName)) ∈ TB := zTB 822 (by decide +kernel) (by decide +kernel)
theorem wd_823 : (Jvm.Cond.instanceMethod ({ cls := "FoxBurrows", name := "ends", desc := "(I)I" } : Jvm.MethodName)) ∈ TB := zTB 823 (by decide +kernel) (by decide +kernel)
theorem wd_824 : (Jvm.Cond.selects "FoxBurrows" ({ cls := "FoxBurrows", name := "ends", desc := "(I)I" } : Jvm.MethodName) ({ cls := "FoxBurrows", name := "ends", desc := "(I)I" } : Jvm.MethodName)) ∈ TB := zTB 824 (by decide +kernel) (by decide +kernel)
theorem wd_825 : (Jvm.Cond.code ({ cls := "FoxBurrows", name := "ends", desc := "(I)I" } : Jvm.MethodName) prog_1_method_18_code (6 : Nat) (Option.some Jvm.ClassFile.FieldType.int)) ∈ TB := zTB 825 (by decide +kernel) (by decide +kernel)
theorem wd_830 : (Jvm.Cond.methodLink "FoxBurrowsLaw" (70 : Nat) ({ cls := "FoxBurrows", name := "count", desc := "(IZ)I" } : Jvm.MethodName)) ∈ TB := zTB 830 (by decide +kernel) (by decide +kernel)
theorem wd_831 : (Jvm.Cond.instanceMethod ({ cls := "FoxBurrows", name := "count", desc := "(IZ)I" } : Jvm.MethodName)) ∈ TB := zTB 831 (by decide +kernel) (by decide +kernel)
theorem wd_832 : (Jvm.Cond.selects "FoxBurrows" ({ cls := "FoxBurrows", name := "count", desc := "(IZ)I" } : Jvm.MethodName) ({ cls := "FoxBurrows", name := "count", desc := "(IZ)I" } : Jvm.MethodName)) ∈ TB := zTB 832 (by decide +kernel) (by decide +kernel)
theorem wd_833 : (Jvm.Cond.code ({ cls := "FoxBurrows", name := "count", desc := "(IZ)I" } : Jvm.MethodName) prog_1_method_19_code (7 : Nat) (Option.some Jvm.ClassFile.FieldType.int)) ∈ TB := zTB 833 (by decide +kernel) (by decide +kernel)
theorem wd_842 : (Jvm.Cond.methodLink "FoxBurrowsLaw" (73 : Nat) ({ cls := "FoxBurrows", name := "longest", desc := "(Z)I" } : Jvm.MethodName)) ∈ TB := zTB 842 (by decide +kernel) (by decide +kernel)
theorem wd_843 : (Jvm.Cond.instanceMethod ({ cls := "FoxBurrows", name := "longest", desc := "(Z)I" } : Jvm.MethodName)) ∈ TB := zTB 843 (by decide +kernel) (by decide +kernel)
theorem wd_844 : (Jvm.Cond.selects "FoxBurrows" ({ cls := "FoxBurrows", name := "longest", desc := "(Z)I" } : Jvm.MethodName) ({ cls := "FoxBurrows", name := "longest", desc := "(Z)I" } : Jvm.MethodName)) ∈ TB := zTB 844 (by decide +kernel) (by decide +kernel)
theorem wd_845 : (Jvm.Cond.code ({ cls := "FoxBurrows", name := "longest", desc := "(Z)I" } : Jvm.MethodName) prog_1_method_20_code (8 : Nat) (Option.some Jvm.ClassFile.FieldType.int)) ∈ TB := zTB 845 (by decide +kernel) (by decide +kernel)
theorem wd_850 : (Jvm.Cond.methodLink "FoxBurrowsLaw" (77 : Nat) ({ cls := "FoxBurrows", name := "wonIn", desc := "(I)I" } : Jvm.MethodName)) ∈ TB := zTB 850 (by decide +kernel) (by decide +kernel)
theorem wd_851 : (Jvm.Cond.instanceMethod ({ cls := "FoxBurrows", name := "wonIn", desc := "(I)I" } : Jvm.MethodName)) ∈ TB := zTB 851 (by decide +kernel) (by decide +kernel)
theorem wd_852 : (Jvm.Cond.selects "FoxBurrows" ({ cls := "FoxBurrows", name := "wonIn", desc := "(I)I" } : Jvm.MethodName) ({ cls := "FoxBurrows", name := "wonIn", desc := "(I)I" } : Jvm.MethodName)) ∈ TB := zTB 852 (by decide +kernel) (by decide +kernel)
theorem wd_853 : (Jvm.Cond.code ({ cls := "FoxBurrows", name := "wonIn", desc := "(I)I" } : Jvm.MethodName) prog_1_method_21_code (2 : Nat) (Option.some Jvm.ClassFile.FieldType.int)) ∈ TB := zTB 853 (by decide +kernel) (by decide +kernel)
theorem wd_862 : (Jvm.Cond.classLink "FoxBurrowsLaw" (83 : Nat) "java/lang/IndexOutOfBoundsException") ∈ TB := zTB 862 (by decide +kernel) (by decide +kernel)
theorem wd_886 : (Jvm.Cond.methodLink "FoxBurrowsLaw" (80 : Nat) ({ cls := "FoxBurrows", name := "wouldChange", desc := "(II)I" } : Jvm.MethodName)) ∈ TB := zTB 886 (by decide +kernel) (by decide +kernel)
theorem wd_887 : (Jvm.Cond.instanceMethod ({ cls := "FoxBurrows", name := "wouldChange", desc := "(II)I" } : Jvm.MethodName)) ∈ TB := zTB 887 (by decide +kernel) (by decide +kernel)
theorem wd_888 : (Jvm.Cond.selects "FoxBurrows" ({ cls := "FoxBurrows", name := "wouldChange", desc := "(II)I" } : Jvm.MethodName) ({ cls := "FoxBurrows", name := "wouldChange", desc := "(II)I" } : Jvm.MethodName)) ∈ TB := zTB 888 (by decide +kernel) (by decide +kernel)
theorem wd_889 : (Jvm.Cond.code ({ cls := "FoxBurrows", name := "wouldChange", desc := "(II)I" } : Jvm.MethodName) prog_1_method_22_code (6 : Nat) (Option.some Jvm.ClassFile.FieldType.int)) ∈ TB := zTB 889 (by decide +kernel) (by decide +kernel)
theorem wd_909 : (Jvm.Cond.methodLink "FoxBurrowsLaw" (85 : Nat) ({ cls := "FoxBurrows", name := "bestBurrow", desc := "(I)I" } : Jvm.MethodName)) ∈ TB := zTB 909 (by decide +kernel) (by decide +kernel)
theorem wd_910 : (Jvm.Cond.instanceMethod ({ cls := "FoxBurrows", name := "bestBurrow", desc := "(I)I" } : Jvm.MethodName)) ∈ TB := zTB 910 (by decide +kernel) (by decide +kernel)
theorem wd_911 : (Jvm.Cond.selects "FoxBurrows" ({ cls := "FoxBurrows", name := "bestBurrow", desc := "(I)I" } : Jvm.MethodName) ({ cls := "FoxBurrows", name := "bestBurrow", desc := "(I)I" } : Jvm.MethodName)) ∈ TB := zTB 911 (by decide +kernel) (by decide +kernel)
theorem wd_912 : (Jvm.Cond.code ({ cls := "FoxBurrows", name := "bestBurrow", desc := "(I)I" } : Jvm.MethodName) prog_1_method_23_code (6 : Nat) (Option.some Jvm.ClassFile.FieldType.int)) ∈ TB := zTB 912 (by decide +kernel) (by decide +kernel)
theorem wd_923 : (Jvm.Cond.methodLink "FoxBurrowsLaw" (88 : Nat) ({ cls := "FoxBurrows", name := "burrowOf", desc := "(II)I" } : Jvm.MethodName)) ∈ TB := zTB 923 (by decide +kernel) (by decide +kernel)
theorem wd_924 : (Jvm.Cond.instanceMethod ({ cls := "FoxBurrows", name := "burrowOf", desc := "(II)I" } : Jvm.MethodName)) ∈ TB := zTB 924 (by decide +kernel) (by decide +kernel)
theorem wd_925 : (Jvm.Cond.selects "FoxBurrows" ({ cls := "FoxBurrows", name := "burrowOf", desc := "(II)I" } : Jvm.MethodName) ({ cls := "FoxBurrows", name := "burrowOf", desc := "(II)I" } : Jvm.MethodName)) ∈ TB := zTB 925 (by decide +kernel) (by decide +kernel)
theorem wd_926 : (Jvm.Cond.code ({ cls := "FoxBurrows", name := "burrowOf", desc := "(II)I" } : Jvm.MethodName) prog_1_method_24_code (3 : Nat) (Option.some Jvm.ClassFile.FieldType.int)) ∈ TB := zTB 926 (by decide +kernel) (by decide +kernel)
theorem wd_936 : (Jvm.Cond.methodLink "FoxBurrowsLaw" (91 : Nat) ({ cls := "FoxBurrows", name := "pathOf", desc := "(IZ)I" } : Jvm.MethodName)) ∈ TB := zTB 936 (by decide +kernel) (by decide +kernel)
theorem wd_937 : (Jvm.Cond.instanceMethod ({ cls := "FoxBurrows", name := "pathOf", desc := "(IZ)I" } : Jvm.MethodName)) ∈ TB := zTB 937 (by decide +kernel) (by decide +kernel)
theorem wd_938 : (Jvm.Cond.selects "FoxBurrows" ({ cls := "FoxBurrows", name := "pathOf", desc := "(IZ)I" } : Jvm.MethodName) ({ cls := "FoxBurrows", name := "pathOf", desc := "(IZ)I" } : Jvm.MethodName)) ∈ TB := zTB 938 (by decide +kernel) (by decide +kernel)
theorem wd_939 : (Jvm.Cond.code ({ cls := "FoxBurrows", name := "pathOf", desc := "(IZ)I" } : Jvm.MethodName) prog_1_method_25_code (3 : Nat) (Option.some Jvm.ClassFile.FieldType.int)) ∈ TB := zTB 939 (by decide +kernel) (by decide +kernel)
theorem wd_944 : (Jvm.Cond.methodLink "FoxBurrowsLaw" (94 : Nat) ({ cls := "FoxBurrows", name := "now", desc := "()I" } : Jvm.MethodName)) ∈ TB := zTB 944 (by decide +kernel) (by decide +kernel)
theorem wd_945 : (Jvm.Cond.instanceMethod ({ cls := "FoxBurrows", name := "now", desc := "()I" } : Jvm.MethodName)) ∈ TB := zTB 945 (by decide +kernel) (by decide +kernel)
theorem wd_946 : (Jvm.Cond.selects "FoxBurrows" ({ cls := "FoxBurrows", name := "now", desc := "()I" } : Jvm.MethodName) ({ cls := "FoxBurrows", name := "now", desc := "()I" } : Jvm.MethodName)) ∈ TB := zTB 946 (by decide +kernel) (by decide +kernel)
theorem wd_947 : (Jvm.Cond.code ({ cls := "FoxBurrows", name := "now", desc := "()I" } : Jvm.MethodName) prog_1_method_11_code (1 : Nat) (Option.some Jvm.ClassFile.FieldType.int)) ∈ TB := zTB 947 (by decide +kernel) (by decide +kernel)
theorem wd_952 : (Jvm.Cond.classLink "FoxBurrowsLaw" (101 : Nat) "java/lang/IllegalStateException") ∈ TB := zTB 952 (by decide +kernel) (by decide +kernel)
theorem wd_953 : (Jvm.Cond.methodLink "FoxBurrowsLaw" (97 : Nat) ({ cls := "FoxBurrows", name := "append", desc := "(C)I" } : Jvm.MethodName)) ∈ TB := zTB 953 (by decide +kernel) (by decide +kernel)
theorem wd_954 : (Jvm.Cond.instanceMethod ({ cls := "FoxBurrows", name := "append", desc := "(C)I" } : Jvm.MethodName)) ∈ TB := zTB 954 (by decide +kernel) (by decide +kernel)
theorem wd_955 : (Jvm.Cond.selects "FoxBurrows" ({ cls := "FoxBurrows", name := "append", desc := "(C)I" } : Jvm.MethodName) ({ cls := "FoxBurrows", name := "append", desc := "(C)I" } : Jvm.MethodName)) ∈ TB := zTB 955 (by decide +kernel) (by decide +kernel)
theorem wd_956 : (Jvm.Cond.code ({ cls := "FoxBurrows", name := "append", desc := "(C)I" } : Jvm.MethodName) prog_1_method_29_code (2 : Nat) (Option.some Jvm.ClassFile.FieldType.int)) ∈ TB := zTB 956 (by decide +kernel) (by decide +kernel)
theorem wd_976 : (Jvm.Cond.methodLink "FoxBurrowsLaw" (103 : Nat) ({ cls := "FoxBurrows", name := "commands", desc := "()I" } : Jvm.MethodName)) ∈ TB := zTB 976 (by decide +kernel) (by decide +kernel)
theorem wd_977 : (Jvm.Cond.instanceMethod ({ cls := "FoxBurrows", name := "commands", desc := "()I" } : Jvm.MethodName)) ∈ TB := zTB 977 (by decide +kernel) (by decide +kernel)
theorem wd_978 : (Jvm.Cond.selects "FoxBurrows" ({ cls := "FoxBurrows", name := "commands", desc := "()I" } : Jvm.MethodName) ({ cls := "FoxBurrows", name := "commands", desc := "()I" } : Jvm.MethodName)) ∈ TB := zTB 978 (by decide +kernel) (by decide +kernel)
theorem wd_979 : (Jvm.Cond.code ({ cls := "FoxBurrows", name := "commands", desc := "()I" } : Jvm.MethodName) prog_1_method_30_code (3 : Nat) (Option.some Jvm.ClassFile.FieldType.int)) ∈ TB := zTB 979 (by decide +kernel) (by decide +kernel)
theorem wd_1012 : (Jvm.Cond.methodLink "FoxBurrowsLaw" (106 : Nat) ({ cls := "FoxBurrows", name := "reason", desc := "(I)I" } : Jvm.MethodName)) ∈ TB := zTB 1012 (by decide +kernel) (by decide +kernel)
theorem wd_1013 : (Jvm.Cond.instanceMethod ({ cls := "FoxBurrows", name := "reason", desc := "(I)I" } : Jvm.MethodName)) ∈ TB := zTB 1013 (by decide +kernel) (by decide +kernel)
theorem wd_1014 : (Jvm.Cond.selects "FoxBurrows" ({ cls := "FoxBurrows", name := "reason", desc := "(I)I" } : Jvm.MethodName) ({ cls := "FoxBurrows", name := "reason", desc := "(I)I" } : Jvm.MethodName)) ∈ TB := zTB 1014 (by decide +kernel) (by decide +kernel)
theorem wd_1015 : (Jvm.Cond.code ({ cls := "FoxBurrows", name := "reason", desc := "(I)I" } : Jvm.MethodName) prog_1_method_32_code (2 : Nat) (Option.some Jvm.ClassFile.FieldType.int)) ∈ TB := zTB 1015 (by decide +kernel) (by decide +kernel)
theorem wd_1021 : (Jvm.Cond.methodLink "FoxBurrowsLaw" (109 : Nat) ({ cls := "FoxBurrows", name := "character", desc := "(I)C" } : Jvm.MethodName)) ∈ TB := zTB 1021 (by decide +kernel) (by decide +kernel)
theorem wd_1022 : (Jvm.Cond.instanceMethod ({ cls := "FoxBurrows", name := "character", desc := "(I)C" } : Jvm.MethodName)) ∈ TB := zTB 1022 (by decide +kernel) (by decide +kernel)
theorem wd_1023 : (Jvm.Cond.selects "FoxBurrows" ({ cls := "FoxBurrows", name := "character", desc := "(I)C" } : Jvm.MethodName) ({ cls := "FoxBurrows", name := "character", desc := "(I)C" } : Jvm.MethodName)) ∈ TB := zTB 1023 (by decide +kernel) (by decide +kernel)
theorem wd_1024 : (Jvm.Cond.code ({ cls := "FoxBurrows", name := "character", desc := "(I)C" } : Jvm.MethodName) prog_1_method_34_code (2 : Nat) (Option.some Jvm.ClassFile.FieldType.char)) ∈ TB := zTB 1024 (by decide +kernel) (by decide +kernel)
theorem wd_1030 : (Jvm.Cond.classLink "FoxBurrowsLaw" (117 : Nat) "java/lang/ArithmeticException") ∈ TB := zTB 1030 (by decide +kernel) (by decide +kernel)
theorem wd_1044 : (Jvm.Cond.methodLink "FoxBurrowsLaw" (113 : Nat) ({ cls := "FoxBurrows", name := "meanMoves", desc := "()D" } : Jvm.MethodName)) ∈ TB := zTB 1044 (by decide +kernel) (by decide +kernel)
theorem wd_1045 : (Jvm.Cond.instanceMethod ({ cls := "FoxBurrows", name := "meanMoves", desc := "()D" } : Jvm.MethodName)) ∈ TB := zTB 1045 (by decide +kernel) (by decide +kernel)
theorem wd_1046 : (Jvm.Cond.selects "FoxBurrows" ({ cls := "FoxBurrows", name := "meanMoves", desc := "()D" } : Jvm.MethodName) ({ cls := "FoxBurrows", name := "meanMoves", desc := "()D" } : Jvm.MethodName)) ∈ TB := zTB 1046 (by decide +kernel) (by decide +kernel)
theorem wd_1047 : (Jvm.Cond.code ({ cls := "FoxBurrows", name := "meanMoves", desc := "()D" } : Jvm.MethodName) prog_1_method_26_code (5 : Nat) (Option.some Jvm.ClassFile.FieldType.double)) ∈ TB := zTB 1047 (by decide +kernel) (by decide +kernel)
theorem wd_1054 : (Jvm.Cond.methodLink "FoxBurrowsLaw" (119 : Nat) ({ cls := "FoxBurrows", name := "drawn", desc := "()F" } : Jvm.MethodName)) ∈ TB := zTB 1054 (by decide +kernel) (by decide +kernel)
theorem wd_1055 : (Jvm.Cond.instanceMethod ({ cls := "FoxBurrows", name := "drawn", desc := "()F" } : Jvm.MethodName)) ∈ TB := zTB 1055 (by decide +kernel) (by decide +kernel)
theorem wd_1056 : (Jvm.Cond.selects "FoxBurrows" ({ cls := "FoxBurrows", name := "drawn", desc := "()F" } : Jvm.MethodName) ({ cls := "FoxBurrows", name := "drawn", desc := "()F" } : Jvm.MethodName)) ∈ TB := zTB 1056 (by decide +kernel) (by decide +kernel)
theorem wd_1057 : (Jvm.Cond.code ({ cls := "FoxBurrows", name := "drawn", desc := "()F" } : Jvm.MethodName) prog_1_method_27_code (1 : Nat) (Option.some Jvm.ClassFile.FieldType.float)) ∈ TB := zTB 1057 (by decide +kernel) (by decide +kernel)
theorem wd_1062 : (Jvm.Cond.methodLink "FoxBurrowsLaw" (123 : Nat) ({ cls := "FoxBurrows", name := "account", desc := "(I)I" } : Jvm.MethodName)) ∈ TB := zTB 1062 (by decide +kernel) (by decide +kernel)
theorem wd_1063 : (Jvm.Cond.instanceMethod ({ cls := "FoxBurrows", name := "account", desc := "(I)I" } : Jvm.MethodName)) ∈ TB := zTB 1063 (by decide +kernel) (by decide +kernel)
theorem wd_1064 : (Jvm.Cond.selects "FoxBurrows" ({ cls := "FoxBurrows", name := "account", desc := "(I)I" } : Jvm.MethodName) ({ cls := "FoxBurrows", name := "account", desc := "(I)I" } : Jvm.MethodName)) ∈ TB := zTB 1064 (by decide +kernel) (by decide +kernel)
theorem wd_1065 : (Jvm.Cond.code ({ cls := "FoxBurrows", name := "account", desc := "(I)I" } : Jvm.MethodName) prog_1_method_28_code (2 : Nat) (Option.some Jvm.ClassFile.FieldType.int)) ∈ TB := zTB 1065 (by decide +kernel) (by decide +kernel)
theorem wd_1074 : (Jvm.Cond.methodLink "FoxBurrowsLaw" (126 : Nat) ({ cls := "FoxBurrows", name := "undo", desc := "()I" } : Jvm.MethodName)) ∈ TB := zTB 1074 (by decide +kernel) (by decide +kernel)
theorem wd_1075 : (Jvm.Cond.instanceMethod ({ cls := "FoxBurrows", name := "undo", desc := "()I" } : Jvm.MethodName)) ∈ TB := zTB 1075 (by decide +kernel) (by decide +kernel)
theorem wd_1076 : (Jvm.Cond.selects "FoxBurrows" ({ cls := "FoxBurrows", name := "undo", desc := "()I" } : Jvm.MethodName) ({ cls := "FoxBurrows", name := "undo", desc := "()I" } : Jvm.MethodName)) ∈ TB := zTB 1076 (by decide +kernel) (by decide +kernel)
theorem wd_1077 : (Jvm.Cond.code ({ cls := "FoxBurrows", name := "undo", desc := "()I" } : Jvm.MethodName) prog_1_method_35_code (1 : Nat) (Option.some Jvm.ClassFile.FieldType.int)) ∈ TB := zTB 1077 (by decide +kernel) (by decide +kernel)
theorem wd_1086 : (Jvm.Cond.methodLink "FoxBurrowsLaw" (129 : Nat) ({ cls := "FoxBurrows", name := "restore", desc := "()I" } : Jvm.MethodName)) ∈ TB := zTB 1086 (by decide +kernel) (by decide +kernel)
theorem wd_1087 : (Jvm.Cond.instanceMethod ({ cls := "FoxBurrows", name := "restore", desc := "()I" } : Jvm.MethodName)) ∈ TB := zTB 1087 (by decide +kernel) (by decide +kernel)
theorem wd_1088 : (Jvm.Cond.selects "FoxBurrows" ({ cls := "FoxBurrows", name := "restore", desc := "()I" } : Jvm.MethodName) ({ cls := "FoxBurrows", name := "restore", desc := "()I" } : Jvm.MethodName)) ∈ TB := zTB 1088 (by decide +kernel) (by decide +kernel)
theorem wd_1089 : (Jvm.Cond.code ({ cls := "FoxBurrows", name := "restore", desc := "()I" } : Jvm.MethodName) prog_1_method_37_code (1 : Nat) (Option.some Jvm.ClassFile.FieldType.int)) ∈ TB := zTB 1089 (by decide +kernel) (by decide +kernel)
theorem hz_X9_account : (yX9_account.cls ≠ "java/lang/invoke/MethodHandle" ∧ yX9_account.cls ≠ "java/lang/invoke/VarHandle" ∧ (parseMethodDescriptor yX9_account.desc).map (fun d => d.parameters.length) = some 1) := ⟨by decide +kernel, by decide +kernel, by decide +kernel⟩
theorem hy_X9_account : yX9_account.cls = RX9 ∧ (yX9_account.cls ≠ "java/lang/invoke/MethodHandle" ∧ yX9_account.cls ≠ "java/lang/invoke/VarHandle" ∧ (parseMethodDescriptor yX9_account.desc).map (fun d => d.parameters.length) = some 1) := ⟨rfl, hz_X9_account⟩
theorem hz_X9_after : (yX9_after.cls ≠ "java/lang/invoke/MethodHandle" ∧ yX9_after.cls ≠ "java/lang/invoke/VarHandle" ∧ (parseMethodDescriptor yX9_after.desc).map (fun d => d.parameters.length) = some 3) := ⟨by decide +kernel, by decide +kernel, by decide +kernel⟩
theorem hy_X9_after : yX9_after.cls = RX9 ∧ (yX9_after.cls ≠ "java/lang/invoke/MethodHandle" ∧ yX9_after.cls ≠ "java/lang/invoke/VarHandle" ∧ (parseMethodDescriptor yX9_after.desc).map (fun d => d.parameters.length) = some 3) := ⟨rfl, hz_X9_after⟩
theorem hz_X9_append : (yX9_append.cls ≠ "java/lang/invoke/MethodHandle" ∧ yX9_append.cls ≠ "java/lang/invoke/VarHandle" ∧ (parseMethodDescriptor yX9_append.desc).map (fun d => d.parameters.length) = some 1) := ⟨by decide +kernel, by decide +kernel, by decide +kernel⟩
theorem hy_X9_append : yX9_append.cls = RX9 ∧ (yX9_append.cls ≠ "java/lang/invoke/MethodHandle" ∧ yX9_append.cls ≠ "java/lang/invoke/VarHandle" ∧ (parseMethodDescriptor yX9_append.desc).map (fun d => d.parameters.length) = some 1) := ⟨rfl, hz_X9_append⟩
theorem hz_X9_back : (yX9_back.cls ≠ "java/lang/invoke/MethodHandle" ∧ yX9_back.cls ≠ "java/lang/invoke/VarHandle" ∧ (parseMethodDescriptor yX9_back.desc).map (fun d => d.parameters.length) = some 0) := ⟨by decide +kernel, by decide +kernel, by decide +kernel⟩
theorem hy_X9_back : yX9_back.cls = RX9 ∧ (yX9_back.cls ≠ "java/lang/invoke/MethodHandle" ∧ yX9_back.cls ≠ "java/lang/invoke/VarHandle" ∧ (parseMethodDescriptor yX9_back.desc).map (fun d => d.parameters.length) = some 0) := ⟨rfl, hz_X9_back⟩
theorem hz_X9_begin : (yX9_begin.cls ≠ "java/lang/invoke/MethodHandle" ∧ yX9_begin.cls ≠ "java/lang/invoke/VarHandle" ∧ (parseMethodDescriptor yX9_begin.desc).map (fun d => d.parameters.length) = some 1) := ⟨by decide +kernel, by decide +kernel, by decide +kernel⟩
theorem hy_X9_begin : yX9_begin.cls = RX9 ∧ (yX9_begin.cls ≠ "java/lang/invoke/MethodHandle" ∧ yX9_begin.cls ≠ "java/lang/invoke/VarHandle" ∧ (parseMethodDescriptor yX9_begin.desc).map (fun d => d.parameters.length) = some 1) := ⟨rfl, hz_X9_begin⟩
theorem hz_X9_best : (yX9_best.cls ≠ "java/lang/invoke/MethodHandle" ∧ yX9_best.cls ≠ "java/lang/invoke/VarHandle" ∧ (parseMethodDescriptor yX9_best.desc).map (fun d => d.parameters.length) = some 1) := ⟨by decide +kernel, by decide +kernel, by decide +kernel⟩
theorem hy_X9_best : yX9_best.cls = RX9 ∧ (yX9_best.cls ≠ "java/lang/invoke/MethodHandle" ∧ yX9_best.cls ≠ "java/lang/invoke/VarHandle" ∧ (parseMethodDescriptor yX9_best.desc).map (fun d => d.parameters.length) = some 1) := ⟨rfl, hz_X9_best⟩
theorem hz_X9_bestBurrow : (yX9_bestBurrow.cls ≠ "java/lang/invoke/MethodHandle" ∧ yX9_bestBurrow.cls ≠ "java/lang/invoke/VarHandle" ∧ (parseMethodDescriptor yX9_bestBurrow.desc).map (fun d => d.parameters.length) = some 1) := ⟨by decide +kernel, by decide +kernel, by decide +kernel⟩
theorem hy_X9_bestBurrow : yX9_bestBurrow.cls = RX9 ∧ (yX9_bestBurrow.cls ≠ "java/lang/invoke/MethodHandle" ∧ yX9_bestBurrow.cls ≠ "java/lang/invoke/VarHandle" ∧ (parseMethodDescriptor yX9_bestBurrow.desc).map (fun d => d.parameters.length) = some 1) := ⟨rfl, hz_X9_bestBurrow⟩
theorem hz_X9_burrowOf : (yX9_burrowOf.cls ≠ "java/lang/invoke/MethodHandle" ∧ yX9_burrowOf.cls ≠ "java/lang/invoke/VarHandle" ∧ (parseMethodDescriptor yX9_burrowOf.desc).map (fun d => d.parameters.length) = some 2) := ⟨by decide +kernel, by decide +kernel, by decide +kernel⟩
theorem hy_X9_burrowOf : yX9_burrowOf.cls = RX9 ∧ (yX9_burrowOf.cls ≠ "java/lang/invoke/MethodHandle" ∧ yX9_burrowOf.cls ≠ "java/lang/invoke/VarHandle" ∧ (parseMethodDescriptor yX9_burrowOf.desc).map (fun d => d.parameters.length) = some 2) := ⟨rfl, hz_X9_burrowOf⟩
theorem hz_X9_character : (yX9_character.cls ≠ "java/lang/invoke/MethodHandle" ∧ yX9_character.cls ≠ "java/lang/invoke/VarHandle" ∧ (parseMethodDescriptor yX9_character.desc).map (fun d => d.parameters.length) = some 1) := ⟨by decide +kernel, by decide +kernel, by decide +kernel⟩
theorem hy_X9_character : yX9_character.cls = RX9 ∧ (yX9_character.cls ≠ "java/lang/invoke/MethodHandle" ∧ yX9_character.cls ≠ "java/lang/invoke/VarHandle" ∧ (parseMethodDescriptor yX9_character.desc).map (fun d => d.parameters.length) = some 1) := ⟨rfl, hz_X9_character⟩
theorem hz_X9_commands : (yX9_commands.cls ≠ "java/lang/invoke/MethodHandle" ∧ yX9_commands.cls ≠ "java/lang/invoke/VarHandle" ∧ (parseMethodDescriptor yX9_commands.desc).map (fun d => d.parameters.length) = some 0) := ⟨by decide +kernel, by decide +kernel, by decide +kernel⟩
theorem hy_X9_commands : yX9_commands.cls = RX9 ∧ (yX9_commands.cls ≠ "java/lang/invoke/MethodHandle" ∧ yX9_commands.cls ≠ "java/lang/invoke/VarHandle" ∧ (parseMethodDescriptor yX9_commands.desc).map (fun d => d.parameters.length) = some 0) := ⟨rfl, hz_X9_commands⟩
theorem hz_X9_count : (yX9_count.cls ≠ "java/lang/invoke/MethodHandle" ∧ yX9_count.cls ≠ "java/lang/invoke/VarHandle" ∧ (parseMethodDescriptor yX9_count.desc).map (fun d => d.parameters.length) = some 2) := ⟨by decide +kernel, by decide +kernel, by decide +kernel⟩
theorem hy_X9_count : yX9_count.cls = RX9 ∧ (yX9_count.cls ≠ "java/lang/invoke/MethodHandle" ∧ yX9_count.cls ≠ "java/lang/invoke/VarHandle" ∧ (parseMethodDescriptor yX9_count.desc).map (fun d => d.parameters.length) = some 2) := ⟨rfl, hz_X9_count⟩
theorem hz_X9_dig : (yX9_dig.cls ≠ "java/lang/invoke/MethodHandle" ∧ yX9_dig.cls ≠ "java/lang/invoke/VarHandle" ∧ (parseMethodDescriptor yX9_dig.desc).map (fun d => d.parameters.length) = some 0) := ⟨by decide +kernel, by decide +kernel, by decide +kernel⟩
theorem hy_X9_dig : yX9_dig.cls = RX9 ∧ (yX9_dig.cls ≠ "java/lang/invoke/MethodHandle" ∧ yX9_dig.cls ≠ "java/lang/invoke/VarHandle" ∧ (parseMethodDescriptor yX9_dig.desc).map (fun d => d.parameters.length) = some 0) := ⟨rfl, hz_X9_dig⟩
theorem hz_X9_drawn : (yX9_drawn.cls ≠ "java/lang/invoke/MethodHandle" ∧ yX9_drawn.cls ≠ "java/lang/invoke/VarHandle" ∧ (parseMethodDescriptor yX9_drawn.desc).map (fun d => d.parameters.length) = some 0) := ⟨by decide +kernel, by decide +kernel, by decide +kernel⟩
theorem hy_X9_drawn : yX9_drawn.cls = RX9 ∧ (yX9_drawn.cls ≠ "java/lang/invoke/MethodHandle" ∧ yX9_drawn.cls ≠ "java/lang/invoke/VarHandle" ∧ (parseMethodDescriptor yX9_drawn.desc).map (fun d => d.parameters.length) = some 0) := ⟨rfl, hz_X9_drawn⟩
theorem hz_X9_ends : (yX9_ends.cls ≠ "java/lang/invoke/MethodHandle" ∧ yX9_ends.cls ≠ "java/lang/invoke/VarHandle" ∧ (parseMethodDescriptor yX9_ends.desc).map (fun d => d.parameters.length) = some 1) := ⟨by decide +kernel, by decide +kernel, by decide +kernel⟩
theorem hy_X9_ends : yX9_ends.cls = RX9 ∧ (yX9_ends.cls ≠ "java/lang/invoke/MethodHandle" ∧ yX9_ends.cls ≠ "java/lang/invoke/VarHandle" ∧ (parseMethodDescriptor yX9_ends.desc).map (fun d => d.parameters.length) = some 1) := ⟨rfl, hz_X9_ends⟩
theorem hz_X9_flock : (yX9_flock.cls ≠ "java/lang/invoke/MethodHandle" ∧ yX9_flock.cls ≠ "java/lang/invoke/VarHandle" ∧ (parseMethodDescriptor yX9_flock.desc).map (fun d => d.parameters.length) = some 1) := ⟨by decide +kernel, by decide +kernel, by decide +kernel⟩
theorem hy_X9_flock : yX9_flock.cls = RX9 ∧ (yX9_flock.cls ≠ "java/lang/invoke/MethodHandle" ∧ yX9_flock.cls ≠ "java/lang/invoke/VarHandle" ∧ (parseMethodDescriptor yX9_flock.desc).map (fun d => d.parameters.length) = some 1) := ⟨rfl, hz_X9_flock⟩
theorem hz_X9_grow : (yX9_grow.cls ≠ "java/lang/invoke/MethodHandle" ∧ yX9_grow.cls ≠ "java/lang/invoke/VarHandle" ∧ (parseMethodDescriptor yX9_grow.desc).map (fun d => d.parameters.length) = some 2) := ⟨by decide +kernel, by decide +kernel, by decide +kernel⟩
theorem hy_X9_grow : yX9_grow.cls = RX9 ∧ (yX9_grow.cls ≠ "java/lang/invoke/MethodHandle" ∧ yX9_grow.cls ≠ "java/lang/invoke/VarHandle" ∧ (parseMethodDescriptor yX9_grow.desc).map (fun d => d.parameters.length) = some 2) := ⟨rfl, hz_X9_grow⟩
theorem hz_X9_longest : (yX9_longest.cls ≠ "java/lang/invoke/MethodHandle" ∧ yX9_longest.cls ≠ "java/lang/invoke/VarHandle" ∧ (parseMethodDescriptor yX9_longest.desc).map (fun d => d.parameters.length) = some 1) := ⟨by decide +kernel, by decide +kernel, by decide +kernel⟩
theorem hy_X9_longest : yX9_longest.cls = RX9 ∧ (yX9_longest.cls ≠ "java/lang/invoke/MethodHandle" ∧ yX9_longest.cls ≠ "java/lang/invoke/VarHandle" ∧ (parseMethodDescriptor yX9_longest.desc).map (fun d => d.parameters.length) = some 1) := ⟨rfl, hz_X9_longest⟩
theorem hz_X9_meanMoves : (yX9_meanMoves.cls ≠ "java/lang/invoke/MethodHandle" ∧ yX9_meanMoves.cls ≠ "java/lang/invoke/VarHandle" ∧ (parseMethodDescriptor yX9_meanMoves.desc).map (fun d => d.parameters.length) = some 0) := ⟨by decide +kernel, by decide +kernel, by decide +kernel⟩
theorem hy_X9_meanMoves : yX9_meanMoves.cls = RX9 ∧ (yX9_meanMoves.cls ≠ "java/lang/invoke/MethodHandle" ∧ yX9_meanMoves.cls ≠ "java/lang/invoke/VarHandle" ∧ (parseMethodDescriptor yX9_meanMoves.desc).map (fun d => d.parameters.length) = some 0) := ⟨rfl, hz_X9_meanMoves⟩
theorem hz_X9_move : (yX9_move.cls ≠ "java/lang/invoke/MethodHandle" ∧ yX9_move.cls ≠ "java/lang/invoke/VarHandle" ∧ (parseMethodDescriptor yX9_move.desc).map (fun d => d.parameters.length) = some 2) := ⟨by decide +kernel, by decide +kernel, by decide +kernel⟩
theorem hy_X9_move : yX9_move.cls = RX9 ∧ (yX9_move.cls ≠ "java/lang/invoke/MethodHandle" ∧ yX9_move.cls ≠ "java/lang/invoke/VarHandle" ∧ (parseMethodDescriptor yX9_move.desc).map (fun d => d.parameters.length) = some 2) := ⟨rfl, hz_X9_move⟩
theorem hz_X9_moveOf : (yX9_moveOf.cls ≠ "java/lang/invoke/MethodHandle" ∧ yX9_moveOf.cls ≠ "java/lang/invoke/VarHandle" ∧ (parseMethodDescriptor yX9_moveOf.desc).map (fun d => d.parameters.length) = some 3) := ⟨by decide +kernel, by decide +kernel, by decide +kernel⟩
theorem hy_X9_moveOf : yX9_moveOf.cls = RX9 ∧ (yX9_moveOf.cls ≠ "java/lang/invoke/MethodHandle" ∧ yX9_moveOf.cls ≠ "java/lang/invoke/VarHandle" ∧ (parseMethodDescriptor yX9_moveOf.desc).map (fun d => d.parameters.length) = some 3) := ⟨rfl, hz_X9_moveOf⟩
theorem hz_X9_now : (yX9_now.cls ≠ "java/lang/invoke/MethodHandle" ∧ yX9_now.cls ≠ "java/lang/invoke/VarHandle" ∧ (parseMethodDescriptor yX9_now.desc).map (fun d => d.parameters.length) = some 0) := ⟨by decide +kernel, by decide +kernel, by decide +kernel⟩
theorem hy_X9_now : yX9_now.cls = RX9 ∧ (yX9_now.cls ≠ "java/lang/invoke/MethodHandle" ∧ yX9_now.cls ≠ "java/lang/invoke/VarHandle" ∧ (parseMethodDescriptor yX9_now.desc).map (fun d => d.parameters.length) = some 0) := ⟨rfl, hz_X9_now⟩
theorem hz_X9_outcomeAgain : (yX9_outcomeAgain.cls ≠ "java/lang/invoke/MethodHandle" ∧ yX9_outcomeAgain.cls ≠ "java/lang/invoke/VarHandle" ∧ (parseMethodDescriptor yX9_outcomeAgain.desc).map (fun d => d.parameters.length) = some 1) := ⟨by decide +kernel, by decide +kernel, by decide +kernel⟩
theorem hy_X9_outcomeAgain : yX9_outcomeAgain.cls = RX9 ∧ (yX9_outcomeAgain.cls ≠ "java/lang/invoke/MethodHandle" ∧ yX9_outcomeAgain.cls ≠ "java/lang/invoke/VarHandle" ∧ (parseMethodDescriptor yX9_outcomeAgain.desc).map (fun d => d.parameters.length) = some 1) := ⟨rfl, hz_X9_outcomeAgain⟩
theorem hz_X9_pathOf : (yX9_pathOf.cls ≠ "java/lang/invoke/MethodHandle" ∧ yX9_pathOf.cls ≠ "java/lang/invoke/VarHandle" ∧ (parseMethodDescriptor yX9_pathOf.desc).map (fun d => d.parameters.length) = some 2) := ⟨by decide +kernel, by decide +kernel, by decide +kernel⟩
theorem hy_X9_pathOf : yX9_pathOf.cls = RX9 ∧ (yX9_pathOf.cls ≠ "java/lang/invoke/MethodHandle" ∧ yX9_pathOf.cls ≠ "java/lang/invoke/VarHandle" ∧ (parseMethodDescriptor yX9_pathOf.desc).map (fun d => d.parameters.length) = some 2) := ⟨rfl, hz_X9_pathOf⟩
theorem hz_X9_play : (yX9_play.cls ≠ "java/lang/invoke/MethodHandle" ∧ yX9_play.cls ≠ "java/lang/invoke/VarHandle" ∧ (parseMethodDescriptor yX9_play.desc).map (fun d => d.parameters.length) = some 1) := ⟨by decide +kernel, by decide +kernel, by decide +kernel⟩
theorem hy_X9_play : yX9_play.cls = RX9 ∧ (yX9_play.cls ≠ "java/lang/invoke/MethodHandle" ∧ yX9_play.cls ≠ "java/lang/invoke/VarHandle" ∧ (parseMethodDescriptor yX9_play.desc).map (fun d => d.parameters.length) = some 1) := ⟨rfl, hz_X9_play⟩
theorem hz_X9_position : (yX9_position.cls ≠ "java/lang/invoke/MethodHandle" ∧ yX9_position.cls ≠ "java/lang/invoke/VarHandle" ∧ (parseMethodDescriptor yX9_position.desc).map (fun d => d.parameters.length) = some 4) := ⟨by decide +kernel, by decide +kernel, by decide +kernel⟩
theorem hy_X9_position : yX9_position.cls = RX9 ∧ (yX9_position.cls ≠ "java/lang/invoke/MethodHandle" ∧ yX9_position.cls ≠ "java/lang/invoke/VarHandle" ∧ (parseMethodDescriptor yX9_position.desc).map (fun d => d.parameters.length) = some 4) := ⟨rfl, hz_X9_position⟩
theorem hz_X9_positionOf : (yX9_positionOf.cls ≠ "java/lang/invoke/MethodHandle" ∧ yX9_positionOf.cls ≠ "java/lang/invoke/VarHandle" ∧ (parseMethodDescriptor yX9_positionOf.desc).map (fun d => d.parameters.length) = some 2) := ⟨by decide +kernel, by decide +kernel, by decide +kernel⟩
theorem hy_X9_positionOf : yX9_positionOf.cls = RX9 ∧ (yX9_positionOf.cls ≠ "java/lang/invoke/MethodHandle" ∧ yX9_positionOf.cls ≠ "java/lang/invoke/VarHandle" ∧ (parseMethodDescriptor yX9_positionOf.desc).map (fun d => d.parameters.length) = some 2) := ⟨rfl, hz_X9_positionOf⟩
theorem hz_X9_reason : (yX9_reason.cls ≠ "java/lang/invoke/MethodHandle" ∧ yX9_reason.cls ≠ "java/lang/invoke/VarHandle" ∧ (parseMethodDescriptor yX9_reason.desc).map (fun d => d.parameters.length) = some 1) := ⟨by decide +kernel, by decide +kernel, by decide +kernel⟩
theorem hy_X9_reason : yX9_reason.cls = RX9 ∧ (yX9_reason.cls ≠ "java/lang/invoke/MethodHandle" ∧ yX9_reason.cls ≠ "java/lang/invoke/VarHandle" ∧ (parseMethodDescriptor yX9_reason.desc).map (fun d => d.parameters.length) = some 1) := ⟨rfl, hz_X9_reason⟩
theorem hz_X9_restore : (yX9_restore.cls ≠ "java/lang/invoke/MethodHandle" ∧ yX9_restore.cls ≠ "java/lang/invoke/VarHandle" ∧ (parseMethodDescriptor yX9_restore.desc).map (fun d => d.parameters.length) = some 0) := ⟨by decide +kernel, by decide +kernel, by decide +kernel⟩
theorem hy_X9_restore : yX9_restore.cls = RX9 ∧ (yX9_restore.cls ≠ "java/lang/invoke/MethodHandle" ∧ yX9_restore.cls ≠ "java/lang/invoke/VarHandle" ∧ (parseMethodDescriptor yX9_restore.desc).map (fun d => d.parameters.length) = some 0) := ⟨rfl, hz_X9_restore⟩
theorem hz_X9_trap : (yX9_trap.cls ≠ "java/lang/invoke/MethodHandle" ∧ yX9_trap.cls ≠ "java/lang/invoke/VarHandle" ∧ (parseMethodDescriptor yX9_trap.desc).map (fun d => d.parameters.length) = some 2) := ⟨by decide +kernel, by decide +kernel, by decide +kernel⟩
theorem hy_X9_trap : yX9_trap.cls = RX9 ∧ (yX9_trap.cls ≠ "java/lang/invoke/MethodHandle" ∧ yX9_trap.cls ≠ "java/lang/invoke/VarHandle" ∧ (parseMethodDescriptor yX9_trap.desc).map (fun d => d.parameters.length) = some 2) := ⟨rfl, hz_X9_trap⟩
theorem hz_X9_tread : (yX9_tread.cls ≠ "java/lang/invoke/MethodHandle" ∧ yX9_tread.cls ≠ "java/lang/invoke/VarHandle" ∧ (parseMethodDescriptor yX9_tread.desc).map (fun d => d.parameters.length) = some 2) := ⟨by decide +kernel, by decide +kernel, by decide +kernel⟩
theorem hy_X9_tread : yX9_tread.cls = RX9 ∧ (yX9_tread.cls ≠ "java/lang/invoke/MethodHandle" ∧ yX9_tread.cls ≠ "java/lang/invoke/VarHandle" ∧ (parseMethodDescriptor yX9_tread.desc).map (fun d => d.parameters.length) = some 2) := ⟨rfl, hz_X9_tread⟩
theorem hz_X9_undo : (yX9_undo.cls ≠ "java/lang/invoke/MethodHandle" ∧ yX9_undo.cls ≠ "java/lang/invoke/VarHandle" ∧ (parseMethodDescriptor yX9_undo.desc).map (fun d => d.parameters.length) = some 0) := ⟨by decide +kernel, by decide +kernel, by decide +kernel⟩
theorem hy_X9_undo : yX9_undo.cls = RX9 ∧ (yX9_undo.cls ≠ "java/lang/invoke/MethodHandle" ∧ yX9_undo.cls ≠ "java/lang/invoke/VarHandle" ∧ (parseMethodDescriptor yX9_undo.desc).map (fun d => d.parameters.length) = some 0) := ⟨rfl, hz_X9_undo⟩
theorem hz_X9_wonIn : (yX9_wonIn.cls ≠ "java/lang/invoke/MethodHandle" ∧ yX9_wonIn.cls ≠ "java/lang/invoke/VarHandle" ∧ (parseMethodDescriptor yX9_wonIn.desc).map (fun d => d.parameters.length) = some 1) := ⟨by decide +kernel, by decide +kernel, by decide +kernel⟩
theorem hy_X9_wonIn : yX9_wonIn.cls = RX9 ∧ (yX9_wonIn.cls ≠ "java/lang/invoke/MethodHandle" ∧ yX9_wonIn.cls ≠ "java/lang/invoke/VarHandle" ∧ (parseMethodDescriptor yX9_wonIn.desc).map (fun d => d.parameters.length) = some 1) := ⟨rfl, hz_X9_wonIn⟩
theorem hz_X9_wouldChange : (yX9_wouldChange.cls ≠ "java/lang/invoke/MethodHandle" ∧ yX9_wouldChange.cls ≠ "java/lang/invoke/VarHandle" ∧ (parseMethodDescriptor yX9_wouldChange.desc).map (fun d => d.parameters.length) = some 2) := ⟨by decide +kernel, by decide +kernel, by decide +kernel⟩
theorem hy_X9_wouldChange : yX9_wouldChange.cls = RX9 ∧ (yX9_wouldChange.cls ≠ "java/lang/invoke/MethodHandle" ∧ yX9_wouldChange.cls ≠ "java/lang/invoke/VarHandle" ∧ (parseMethodDescriptor yX9_wouldChange.desc).map (fun d => d.parameters.length) = some 2) := ⟨rfl, hz_X9_wouldChange⟩
def w_L_dig (u : MU) (o : (Nat → Int64)) (Q : Int32 → MU → (Nat → Int64) → Prop) : Prop := w_X9_dig  u (fun r u1 => Q (0 : Int32) u1 (vp_updL o ((0 : Int32)).toNatClampNeg r.toInt64)) (fun E u1 => (E = "java/lang/UnsupportedOperationException" ∧ Q (1 : Int32) u1 o))
abbrev rm_L_dig : Room := { frames := 8, cells := 1, slots := 6, locals := 326 }
set_option maxHeartbeats 4000000 in
set_option maxRecDepth 100000 in
theorem c_L_dig (l : Launch) (hstk : l.stackTraces = false) (g : GE) (u v : MU) (o : (Nat → Int64)) (dd : Nat → UInt64) {Q : Int32 → MU → (Nat → Int64) → Prop} (h : w_L_dig  u o Q) : Met l yL_dig (.codeWith yL_dig cL_dig 3 (Option.some Jvm.ClassFile.FieldType.int) [((0 : Nat), (8 : Nat), (11 : Nat), (13 : Nat))] :: TB) rm_L_dig (zPc g (u, v, o, dd) [.ref (g.2.2.1 0), .ref (g.2.2.1 131)]) (zQi g (zPl v dd Q)) 1 6 (zA g) := by
  unfold w_L_dig at h
  refine zMetT (own := RL) [(0, .ref (g.2.2.1 0)), (1, .ref (g.2.2.1 131))] (by decide +kernel) rfl (Nat.le_of_ble_eq_true rfl) rfl (fun p e s m args below meth c C hr ht => ?_)
  refine zm_aload_n C dL_dig_0 rfl 1 rfl ?_
  refine zm_iconst (v := 0) C dL_dig_1 (by decide) ?_
  refine zm_aload_n C dL_dig_2 rfl 0 rfl ?_
  refine zx_ci (zrX_V (As := []) (rest := [.int (0 : Int32), .ref (g.2.2.1 131)]) C (c_X9_dig l hstk g u (v, o, dd)  h) wd_347 wd_348 wd_349 wd_1 wd_350 hy_X9_dig rfl rfl ⟨by decide, by decide⟩ ⟨by decide, by decide⟩ (ci := 9) (by decide) (zCell_k kd_0) rfl rfl rfl rfl (Nat.le_of_ble_eq_true rfl) dL_dig_3) (fun E M1 hq => ?_) (fun r M1 hq => ?_)
  · obtain ⟨u1, rfl, h⟩ := hq
    obtain ⟨rfl, h⟩ := h
    refine zm_catch (name := "java/lang/UnsupportedOperationException") C [] ⟨0, 8, 11, 13⟩ [] ht (fun z hz => nomatch hz) (by decide) (by decide) wd_346 wd_377 (fun q => ?_)
    refine zm_astore_n (lv' := [(2, .ref q), (0, .ref (g.2.2.1 0)), (1, .ref (g.2.2.1 131))]) C dL_dig_11 rfl (by decide) rfl ?_
    refine zm_iconst (v := 1) C dL_dig_12 (by decide) ?_
    exact zm_iret C hr dL_dig_13 ⟨u1, o, rfl, h⟩
  · obtain ⟨u1, rfl, h⟩ := hq
    refine zm_i2l C dL_dig_6 ?_
    refine zm_stL C zIn01 rfl dL_dig_7 ?_
    refine zm_goto (tgt := 14) C dL_dig_8 (by decide) ?_
    refine zm_iconst (v := 0) C dL_dig_14 (by decide) ?_
    exact zm_iret C hr dL_dig_15 ⟨u1, _, rfl, h⟩
def w_L_tread (x1 : Int32) (x2 : Int32) (u : MU) (o : (Nat → Int64)) (Q : Int32 → MU → (Nat → Int64) → Prop) : Prop := w_X9_tread x1 x2 u (fun r u1 => Q (0 : Int32) u1 (vp_updL o ((0 : Int32)).toNatClampNeg r.toInt64)) (fun E u1 => (E = "java/lang/UnsupportedOperationException" ∧ Q (1 : Int32) u1 o))
abbrev rm_L_tread : Room := { frames := 8, cells := 1, slots := 6, locals := 328 }
set_option maxHeartbeats 4000000 in
set_option maxRecDepth 100000 in
theorem c_L_tread (l : Launch) (hstk : l.stackTraces = false) (g : GE) (u v : MU) (o : (Nat → Int64)) (dd : Nat → UInt64) (x1 : Int32) (x2 : Int32) {Q : Int32 → MU → (Nat → Int64) → Prop} (h : w_L_tread x1 x2 u o Q) : Met l yL_tread (.codeWith yL_tread cL_tread 5 (Option.some Jvm.ClassFile.FieldType.int) [((0 : Nat), (10 : Nat), (13 : Nat), (13 : Nat))] :: TB) rm_L_tread (zPc g (u, v, o, dd) [.ref (g.2.2.1 0), .int x1, .int x2, .ref (g.2.2.1 131)]) (zQi g (zPl v dd Q)) 1 6 (zA g) := by
  unfold w_L_tread at h
  refine zMetT (own := RL) [(0, .ref (g.2.2.1 0)), (1, .int x1), (2, .int x2), (3, .ref (g.2.2.1 131))] (by decide +kernel) rfl (Nat.le_of_ble_eq_true rfl) rfl (fun p e s m args below meth c C hr ht => ?_)
  refine zm_aload_n C dL_tread_0 rfl 3 rfl ?_
  refine zm_iconst (v := 0) C dL_tread_1 (by decide) ?_
  refine zm_aload_n C dL_tread_2 rfl 0 rfl ?_
  refine zm_iload_n C dL_tread_3 rfl 1 rfl ?_
  refine zm_iload_n C dL_tread_4 rfl 2 rfl ?_
  refine zx_ci (zrX_V (As := [.int x1, .int x2]) (rest := [.int (0 : Int32), .ref (g.2.2.1 131)]) C (c_X9_tread l hstk g u (v, o, dd) x1 x2 h) wd_460 wd_461 wd_462 wd_1 wd_463 hy_X9_tread rfl rfl ⟨by decide, by decide⟩ ⟨by decide, by decide⟩ (ci := 9) (by decide) (zCell_k kd_0) rfl rfl rfl rfl (Nat.le_of_ble_eq_true rfl) dL_tread_5) (fun E M1 hq => ?_) (fun r M1 hq => ?_)
  · obtain ⟨u1, rfl, h⟩ := hq
    obtain ⟨rfl, h⟩ := h
    refine zm_catch (name := "java/lang/UnsupportedOperationException") C [] ⟨0, 10, 13, 13⟩ [] ht (fun z hz => nomatch hz) (by decide) (by decide) wd_346 wd_377 (fun q => ?_)
    refine zm_astore (lv' := [(4, .ref q), (0, .ref (g.2.2.1 0)), (1, .int x1), (2, .int x2), (3, .ref (g.2.2.1 131))]) C dL_tread_13 (by decide) rfl ?_
    refine zm_iconst (v := 1) C dL_tread_15 (by decide) ?_
    exact zm_iret C hr dL_tread_16 ⟨u1, o, rfl, h⟩
  · obtain ⟨u1, rfl, h⟩ := hq
    refine zm_i2l C dL_tread_8 ?_
    refine zm_stL C zIn01 rfl dL_tread_9 ?_
    refine zm_goto (tgt := 17) C dL_tread_10 (by decide) ?_
    refine zm_iconst (v := 0) C dL_tread_17 (by decide) ?_
    exact zm_iret C hr dL_tread_18 ⟨u1, _, rfl, h⟩
def w_L_grow (x1 : Int32) (x2 : Int32) (u : MU) (o : (Nat → Int64)) (Q : Int32 → MU → (Nat → Int64) → Prop) : Prop := w_X9_grow x1 x2 u (fun r u1 => Q (0 : Int32) u1 (vp_updL o ((0 : Int32)).toNatClampNeg r.toInt64)) (fun E u1 => (E = "java/lang/UnsupportedOperationException" ∧ Q (1 : Int32) u1 o))
abbrev rm_L_grow : Room := { frames := 8, cells := 1, slots := 6, locals := 328 }
set_option maxHeartbeats 4000000 in
set_option maxRecDepth 100000 in
theorem c_L_grow (l : Launch) (hstk : l.stackTraces = false) (g : GE) (u v : MU) (o : (Nat → Int64)) (dd : Nat → UInt64) (x1 : Int32) (x2 : Int32) {Q : Int32 → MU → (Nat → Int64) → Prop} (h : w_L_grow x1 x2 u o Q) : Met l yL_grow (.codeWith yL_grow cL_grow 5 (Option.some Jvm.ClassFile.FieldType.int) [((0 : Nat), (10 : Nat), (13 : Nat), (13 : Nat))] :: TB) rm_L_grow (zPc g (u, v, o, dd) [.ref (g.2.2.1 0), .int x1, .int x2, .ref (g.2.2.1 131)]) (zQi g (zPl v dd Q)) 1 6 (zA g) := by
  unfold w_L_grow at h
  refine zMetT (own := RL) [(0, .ref (g.2.2.1 0)), (1, .int x1), (2, .int x2), (3, .ref (g.2.2.1 131))] (by decide +kernel) rfl (Nat.le_of_ble_eq_true rfl) rfl (fun p e s m args below meth c C hr ht => ?_)
  refine zm_aload_n C dL_grow_0 rfl 3 rfl ?_
  refine zm_iconst (v := 0) C dL_grow_1 (by decide) ?_
  refine zm_aload_n C dL_grow_2 rfl 0 rfl ?_
  refine zm_iload_n C dL_grow_3 rfl 1 rfl ?_
  refine zm_iload_n C dL_grow_4 rfl 2 rfl ?_
  refine zx_ci (zrX_V (As := [.int x1, .int x2]) (rest := [.int (0 : Int32), .ref (g.2.2.1 131)]) C (c_X9_grow l hstk g u (v, o, dd) x1 x2 h) wd_498 wd_499 wd_500 wd_1 wd_501 hy_X9_grow rfl rfl ⟨by decide, by decide⟩ ⟨by decide, by decide⟩ (ci := 9) (by decide) (zCell_k kd_0) rfl rfl rfl rfl (Nat.le_of_ble_eq_true rfl) dL_grow_5) (fun E M1 hq => ?_) (fun r M1 hq => ?_)
  · obtain ⟨u1, rfl, h⟩ := hq
    obtain ⟨rfl, h⟩ := h
    refine zm_catch (name := "java/lang/UnsupportedOperationException") C [] ⟨0, 10, 13, 13⟩ [] ht (fun z hz => nomatch hz) (by decide) (by decide) wd_346 wd_377 (fun q => ?_)
    refine zm_astore (lv' := [(4, .ref q), (0, .ref (g.2.2.1 0)), (1, .int x1), (2, .int x2), (3, .ref (g.2.2.1 131))]) C dL_grow_13 (by decide) rfl ?_
    refine zm_iconst (v := 1) C dL_grow_15 (by decide) ?_
    exact zm_iret C hr dL_grow_16 ⟨u1, o, rfl, h⟩
  · obtain ⟨u1, rfl, h⟩ := hq
    refine zm_i2l C dL_grow_8 ?_
    refine zm_stL C zIn01 rfl dL_grow_9 ?_
    refine zm_goto (tgt := 17) C dL_grow_10 (by decide) ?_
    refine zm_iconst (v := 0) C dL_grow_17 (by decide) ?_
    exact zm_iret C hr dL_grow_18 ⟨u1, _, rfl, h⟩
def w_L_trap (x1 : Int32) (x2 : Int32) (u : MU) (o : (Nat → Int64)) (Q : Int32 → MU → (Nat → Int64) → Prop) : Prop := w_X9_trap x1 x2 u (fun r u1 => Q (0 : Int32) u1 (vp_updL o ((0 : Int32)).toNatClampNeg r.toInt64)) (fun E u1 => (E = "java/lang/UnsupportedOperationException" ∧ Q (1 : Int32) u1 o))
abbrev rm_L_trap : Room := { frames := 8, cells := 1, slots := 6, locals := 328 }
set_option maxHeartbeats 4000000 in
set_option maxRecDepth 100000 in
theorem c_L_trap (l : Launch) (hstk : l.stackTraces = false) (g : GE) (u v : MU) (o : (Nat → Int64)) (dd : Nat → UInt64) (x1 : Int32) (x2 : Int32) {Q : Int32 → MU → (Nat → Int64) → Prop} (h : w_L_trap x1 x2 u o Q) : Met l yL_trap (.codeWith yL_trap cL_trap 5 (Option.some Jvm.ClassFile.FieldType.int) [((0 : Nat), (10 : Nat), (13 : Nat), (13 : Nat))] :: TB) rm_L_trap (zPc g (u, v, o, dd) [.ref (g.2.2.1 0), .int x1, .int x2, .ref (g.2.2.1 131)]) (zQi g (zPl v dd Q)) 1 6 (zA g) := by
  unfold w_L_trap at h
  refine zMetT (own := RL) [(0, .ref (g.2.2.1 0)), (1, .int x1), (2, .int x2), (3, .ref (g.2.2.1 131))] (by decide +kernel) rfl (Nat.le_of_ble_eq_true rfl) rfl (fun p e s m args below meth c C hr ht => ?_)
  refine zm_aload_n C dL_trap_0 rfl 3 rfl ?_
  refine zm_iconst (v := 0) C dL_trap_1 (by decide) ?_
  refine zm_aload_n C dL_trap_2 rfl 0 rfl ?_
  refine zm_iload_n C dL_trap_3 rfl 1 rfl ?_
  refine zm_iload_n C dL_trap_4 rfl 2 rfl ?_
  refine zx_ci (zrX_V (As := [.int x1, .int x2]) (rest := [.int (0 : Int32), .ref (g.2.2.1 131)]) C (c_X9_trap l hstk g u (v, o, dd) x1 x2 h) wd_513 wd_514 wd_515 wd_1 wd_516 hy_X9_trap rfl rfl ⟨by decide, by decide⟩ ⟨by decide, by decide⟩ (ci := 9) (by decide) (zCell_k kd_0) rfl rfl rfl rfl (Nat.le_of_ble_eq_true rfl) dL_trap_5) (fun E M1 hq => ?_) (fun r M1 hq => ?_)
  · obtain ⟨u1, rfl, h⟩ := hq
    obtain ⟨rfl, h⟩ := h
    refine zm_catch (name := "java/lang/UnsupportedOperationException") C [] ⟨0, 10, 13, 13⟩ [] ht (fun z hz => nomatch hz) (by decide) (by decide) wd_346 wd_377 (fun q => ?_)
    refine zm_astore (lv' := [(4, .ref q), (0, .ref (g.2.2.1 0)), (1, .int x1), (2, .int x2), (3, .ref (g.2.2.1 131))]) C dL_trap_13 (by decide) rfl ?_
    refine zm_iconst (v := 1) C dL_trap_15 (by decide) ?_
    exact zm_iret C hr dL_trap_16 ⟨u1, o, rfl, h⟩
  · obtain ⟨u1, rfl, h⟩ := hq
    refine zm_i2l C dL_trap_8 ?_
    refine zm_stL C zIn01 rfl dL_trap_9 ?_
    refine zm_goto (tgt := 17) C dL_trap_10 (by decide) ?_
    refine zm_iconst (v := 0) C dL_trap_17 (by decide) ?_
    exact zm_iret C hr dL_trap_18 ⟨u1, _, rfl, h⟩
def w_L_flock (x1 : Int32) (u : MU) (o : (Nat → Int64)) (Q : Int32 → MU → (Nat → Int64) → Prop) : Prop := w_X9_flock x1 u (fun r u1 => Q (0 : Int32) u1 (vp_updL o ((0 : Int32)).toNatClampNeg r.toInt64)) (fun E u1 => (E = "java/lang/UnsupportedOperationException" ∧ Q (1 : Int32) u1 o))
abbrev rm_L_flock : Room := { frames := 8, cells := 1, slots := 6, locals := 327 }
set_option maxHeartbeats 4000000 in
set_option maxRecDepth 100000 in
theorem c_L_flock (l : Launch) (hstk : l.stackTraces = false) (g : GE) (u v : MU) (o : (Nat → Int64)) (dd : Nat → UInt64) (x1 : Int32) {Q : Int32 → MU → (Nat → Int64) → Prop} (h : w_L_flock x1 u o Q) : Met l yL_flock (.codeWith yL_flock cL_flock 4 (Option.some Jvm.ClassFile.FieldType.int) [((0 : Nat), (9 : Nat), (12 : Nat), (13 : Nat))] :: TB) rm_L_flock (zPc g (u, v, o, dd) [.ref (g.2.2.1 0), .int x1, .ref (g.2.2.1 131)]) (zQi g (zPl v dd Q)) 1 6 (zA g) := by
  unfold w_L_flock at h
  refine zMetT (own := RL) [(0, .ref (g.2.2.1 0)), (1, .int x1), (2, .ref (g.2.2.1 131))] (by decide +kernel) rfl (Nat.le_of_ble_eq_true rfl) rfl (fun p e s m args below meth c C hr ht => ?_)
  refine zm_aload_n C dL_flock_0 rfl 2 rfl ?_
  refine zm_iconst (v := 0) C dL_flock_1 (by decide) ?_
  refine zm_aload_n C dL_flock_2 rfl 0 rfl ?_
  refine zm_iload_n C dL_flock_3 rfl 1 rfl ?_
  refine zx_ci (zrX_V (As := [.int x1]) (rest := [.int (0 : Int32), .ref (g.2.2.1 131)]) C (c_X9_flock l hstk g u (v, o, dd) x1 h) wd_534 wd_535 wd_536 wd_1 wd_537 hy_X9_flock rfl rfl ⟨by decide, by decide⟩ ⟨by decide, by decide⟩ (ci := 9) (by decide) (zCell_k kd_0) rfl rfl rfl rfl (Nat.le_of_ble_eq_true rfl) dL_flock_4) (fun E M1 hq => ?_) (fun r M1 hq => ?_)
  · obtain ⟨u1, rfl, h⟩ := hq
    obtain ⟨rfl, h⟩ := h
    refine zm_catch (name := "java/lang/UnsupportedOperationException") C [] ⟨0, 9, 12, 13⟩ [] ht (fun z hz => nomatch hz) (by decide) (by decide) wd_346 wd_377 (fun q => ?_)
    refine zm_astore_n (lv' := [(3, .ref q), (0, .ref (g.2.2.1 0)), (1, .int x1), (2, .ref (g.2.2.1 131))]) C dL_flock_12 rfl (by decide) rfl ?_
    refine zm_iconst (v := 1) C dL_flock_13 (by decide) ?_
    exact zm_iret C hr dL_flock_14 ⟨u1, o, rfl, h⟩
  · obtain ⟨u1, rfl, h⟩ := hq
    refine zm_i2l C dL_flock_7 ?_
    refine zm_stL C zIn01 rfl dL_flock_8 ?_
    refine zm_goto (tgt := 15) C dL_flock_9 (by decide) ?_
    refine zm_iconst (v := 0) C dL_flock_15 (by decide) ?_
    exact zm_iret C hr dL_flock_16 ⟨u1, _, rfl, h⟩
def w_L_begin (x1 : Int32) (u : MU) (o : (Nat → Int64)) (Q : Int32 → MU → (Nat → Int64) → Prop) : Prop := w_X9_begin x1 u (fun r u1 => Q (0 : Int32) u1 (vp_updL o ((0 : Int32)).toNatClampNeg r.toInt64)) (fun E u1 => (E = "java/lang/UnsupportedOperationException" ∧ Q (1 : Int32) u1 o))
abbrev rm_L_begin : Room := { frames := 8, cells := 1, slots := 6, locals := 327 }
set_option maxHeartbeats 4000000 in
set_option maxRecDepth 100000 in
theorem c_L_begin (l : Launch) (hstk : l.stackTraces = false) (g : GE) (u v : MU) (o : (Nat → Int64)) (dd : Nat → UInt64) (x1 : Int32) {Q : Int32 → MU → (Nat → Int64) → Prop} (h : w_L_begin x1 u o Q) : Met l yL_begin (.codeWith yL_begin cL_begin 4 (Option.some Jvm.ClassFile.FieldType.int) [((0 : Nat), (9 : Nat), (12 : Nat), (13 : Nat))] :: TB) rm_L_begin (zPc g (u, v, o, dd) [.ref (g.2.2.1 0), .int x1, .ref (g.2.2.1 131)]) (zQi g (zPl v dd Q)) 1 6 (zA g) := by
  unfold w_L_begin at h
  refine zMetT (own := RL) [(0, .ref (g.2.2.1 0)), (1, .int x1), (2, .ref (g.2.2.1 131))] (by decide +kernel) rfl (Nat.le_of_ble_eq_true rfl) rfl (fun p e s m args below meth c C hr ht => ?_)
  refine zm_aload_n C dL_begin_0 rfl 2 rfl ?_
  refine zm_iconst (v := 0) C dL_begin_1 (by decide) ?_
  refine zm_aload_n C dL_begin_2 rfl 0 rfl ?_
  refine zm_iload_n C dL_begin_3 rfl 1 rfl ?_
  refine zx_ci (zrX_V (As := [.int x1]) (rest := [.int (0 : Int32), .ref (g.2.2.1 131)]) C (c_X9_begin l hstk g u (v, o, dd) x1 h) wd_545 wd_546 wd_547 wd_1 wd_548 hy_X9_begin rfl rfl ⟨by decide, by decide⟩ ⟨by decide, by decide⟩ (ci := 9) (by decide) (zCell_k kd_0) rfl rfl rfl rfl (Nat.le_of_ble_eq_true rfl) dL_begin_4) (fun E M1 hq => ?_) (fun r M1 hq => ?_)
  · obtain ⟨u1, rfl, h⟩ := hq
    obtain ⟨rfl, h⟩ := h
    refine zm_catch (name := "java/lang/UnsupportedOperationException") C [] ⟨0, 9, 12, 13⟩ [] ht (fun z hz => nomatch hz) (by decide) (by decide) wd_346 wd_377 (fun q => ?_)
    refine zm_astore_n (lv' := [(3, .ref q), (0, .ref (g.2.2.1 0)), (1, .int x1), (2, .ref (g.2.2.1 131))]) C dL_begin_12 rfl (by decide) rfl ?_
    refine zm_iconst (v := 1) C dL_begin_13 (by decide) ?_
    exact zm_iret C hr dL_begin_14 ⟨u1, o, rfl, h⟩
  · obtain ⟨u1, rfl, h⟩ := hq
    refine zm_i2l C dL_begin_7 ?_
    refine zm_stL C zIn01 rfl dL_begin_8 ?_
    refine zm_goto (tgt := 15) C dL_begin_9 (by decide) ?_
    refine zm_iconst (v := 0) C dL_begin_15 (by decide) ?_
    exact zm_iret C hr dL_begin_16 ⟨u1, _, rfl, h⟩
def w_L_move (x1 : Int32) (x2 : Int32) (u : MU) (o : (Nat → Int64)) (Q : Int32 → MU → (Nat → Int64) → Prop) : Prop := w_X9_move x1 x2 u (fun r u1 => Q (0 : Int32) u1 (vp_updL o ((0 : Int32)).toNatClampNeg r.toInt64)) (fun E u1 => (E = "java/lang/UnsupportedOperationException" ∧ Q (1 : Int32) u1 o))
abbrev rm_L_move : Room := { frames := 8, cells := 1, slots := 6, locals := 328 }
set_option maxHeartbeats 4000000 in
set_option maxRecDepth 100000 in
theorem c_L_move (l : Launch) (hstk : l.stackTraces = false) (g : GE) (u v : MU) (o : (Nat → Int64)) (dd : Nat → UInt64) (x1 : Int32) (x2 : Int32) {Q : Int32 → MU → (Nat → Int64) → Prop} (h : w_L_move x1 x2 u o Q) : Met l yL_move (.codeWith yL_move cL_move 5 (Option.some Jvm.ClassFile.FieldType.int) [((0 : Nat), (10 : Nat), (13 : Nat), (13 : Nat))] :: TB) rm_L_move (zPc g (u, v, o, dd) [.ref (g.2.2.1 0), .int x1, .int x2, .ref (g.2.2.1 131)]) (zQi g (zPl v dd Q)) 1 6 (zA g) := by
  unfold w_L_move at h
  refine zMetT (own := RL) [(0, .ref (g.2.2.1 0)), (1, .int x1), (2, .int x2), (3, .ref (g.2.2.1 131))] (by decide +kernel) rfl (Nat.le_of_ble_eq_true rfl) rfl (fun p e s m args below meth c C hr ht => ?_)
  refine zm_aload_n C dL_move_0 rfl 3 rfl ?_
  refine zm_iconst (v := 0) C dL_move_1 (by decide) ?_
  refine zm_aload_n C dL_move_2 rfl 0 rfl ?_
  refine zm_iload_n C dL_move_3 rfl 1 rfl ?_
  refine zm_iload_n C dL_move_4 rfl 2 rfl ?_
  refine zx_ci (zrX_V (As := [.int x1, .int x2]) (rest := [.int (0 : Int32), .ref (g.2.2.1 131)]) C (c_X9_move l hstk g u (v, o, dd) x1 x2 h) wd_601 wd_602 wd_603 wd_1 wd_604 hy_X9_move rfl rfl ⟨by decide, by decide⟩ ⟨by decide, by decide⟩ (ci := 9) (by decide) (zCell_k kd_0) rfl rfl rfl rfl (Nat.le_of_ble_eq_true rfl) dL_move_5) (fun E M1 hq => ?_) (fun r M1 hq => ?_)
  · obtain ⟨u1, rfl, h⟩ := hq
    obtain ⟨rfl, h⟩ := h
    refine zm_catch (name := "java/lang/UnsupportedOperationException") C [] ⟨0, 10, 13, 13⟩ [] ht (fun z hz => nomatch hz) (by decide) (by decide) wd_346 wd_377 (fun q => ?_)
    refine zm_astore (lv' := [(4, .ref q), (0, .ref (g.2.2.1 0)), (1, .int x1), (2, .int x2), (3, .ref (g.2.2.1 131))]) C dL_move_13 (by decide) rfl ?_
    refine zm_iconst (v := 1) C dL_move_15 (by decide) ?_
    exact zm_iret C hr dL_move_16 ⟨u1, o, rfl, h⟩
  · obtain ⟨u1, rfl, h⟩ := hq
    refine zm_i2l C dL_move_8 ?_
    refine zm_stL C zIn01 rfl dL_move_9 ?_
    refine zm_goto (tgt := 17) C dL_move_10 (by decide) ?_
    refine zm_iconst (v := 0) C dL_move_17 (by decide) ?_
    exact zm_iret C hr dL_move_18 ⟨u1, _, rfl, h⟩
def w_L_play (x1 : Int32) (u : MU) (o : (Nat → Int64)) (Q : Int32 → MU → (Nat → Int64) → Prop) : Prop := w_X9_play x1 u (fun r u1 => Q (0 : Int32) u1 (vp_updL o ((0 : Int32)).toNatClampNeg r.toInt64)) (fun E u1 => (E = "java/lang/UnsupportedOperationException" ∧ Q (1 : Int32) u1 o))
abbrev rm_L_play : Room := { frames := 8, cells := 1, slots := 6, locals := 327 }
set_option maxHeartbeats 4000000 in
set_option maxRecDepth 100000 in
theorem c_L_play (l : Launch) (hstk : l.stackTraces = false) (g : GE) (u v : MU) (o : (Nat → Int64)) (dd : Nat → UInt64) (x1 : Int32) {Q : Int32 → MU → (Nat → Int64) → Prop} (h : w_L_play x1 u o Q) : Met l yL_play (.codeWith yL_play cL_play 4 (Option.some Jvm.ClassFile.FieldType.int) [((0 : Nat), (9 : Nat), (12 : Nat), (13 : Nat))] :: TB) rm_L_play (zPc g (u, v, o, dd) [.ref (g.2.2.1 0), .int x1, .ref (g.2.2.1 131)]) (zQi g (zPl v dd Q)) 1 6 (zA g) := by
  unfold w_L_play at h
  refine zMetT (own := RL) [(0, .ref (g.2.2.1 0)), (1, .int x1), (2, .ref (g.2.2.1 131))] (by decide +kernel) rfl (Nat.le_of_ble_eq_true rfl) rfl (fun p e s m args below meth c C hr ht => ?_)
  refine zm_aload_n C dL_play_0 rfl 2 rfl ?_
  refine zm_iconst (v := 0) C dL_play_1 (by decide) ?_
  refine zm_aload_n C dL_play_2 rfl 0 rfl ?_
  refine zm_iload_n C dL_play_3 rfl 1 rfl ?_
  refine zx_ci (zrX_V (As := [.int x1]) (rest := [.int (0 : Int32), .ref (g.2.2.1 131)]) C (c_X9_play l hstk g u (v, o, dd) x1 h) wd_642 wd_643 wd_644 wd_1 wd_645 hy_X9_play rfl rfl ⟨by decide, by decide⟩ ⟨by decide, by decide⟩ (ci := 9) (by decide) (zCell_k kd_0) rfl rfl rfl rfl (Nat.le_of_ble_eq_true rfl) dL_play_4) (fun E M1 hq => ?_) (fun r M1 hq => ?_)
  · obtain ⟨u1, rfl, h⟩ := hq
    obtain ⟨rfl, h⟩ := h
    refine zm_catch (name := "java/lang/UnsupportedOperationException") C [] ⟨0, 9, 12, 13⟩ [] ht (fun z hz => nomatch hz) (by decide) (by decide) wd_346 wd_377 (fun q => ?_)
    refine zm_astore_n (lv' := [(3, .ref q), (0, .ref (g.2.2.1 0)), (1, .int x1), (2, .ref (g.2.2.1 131))]) C dL_play_12 rfl (by decide) rfl ?_
    refine zm_iconst (v := 1) C dL_play_13 (by decide) ?_
    exact zm_iret C hr dL_play_14 ⟨u1, o, rfl, h⟩
  · obtain ⟨u1, rfl, h⟩ := hq
    refine zm_i2l C dL_play_7 ?_
    refine zm_stL C zIn01 rfl dL_play_8 ?_
    refine zm_goto (tgt := 15) C dL_play_9 (by decide) ?_
    refine zm_iconst (v := 0) C dL_play_15 (by decide) ?_
    exact zm_iret C hr dL_play_16 ⟨u1, _, rfl, h⟩
def w_L_back (u : MU) (o : (Nat → Int64)) (Q : Int32 → MU → (Nat → Int64) → Prop) : Prop := w_X9_back  u (fun r u1 => Q (0 : Int32) u1 (vp_updL o ((0 : Int32)).toNatClampNeg r.toInt64)) (fun E u1 => (E = "java/lang/UnsupportedOperationException" ∧ Q (1 : Int32) u1 o))
abbrev rm_L_back : Room := { frames := 8, cells := 1, slots := 6, locals := 326 }
set_option maxHeartbeats 4000000 in
set_option maxRecDepth 100000 in
theorem c_L_back (l : Launch) (hstk : l.stackTraces = false) (g : GE) (u v : MU) (o : (Nat → Int64)) (dd : Nat → UInt64) {Q : Int32 → MU → (Nat → Int64) → Prop} (h : w_L_back  u o Q) : Met l yL_back (.codeWith yL_back cL_back 3 (Option.some Jvm.ClassFile.FieldType.int) [((0 : Nat), (8 : Nat), (11 : Nat), (13 : Nat))] :: TB) rm_L_back (zPc g (u, v, o, dd) [.ref (g.2.2.1 0), .ref (g.2.2.1 131)]) (zQi g (zPl v dd Q)) 1 6 (zA g) := by
  unfold w_L_back at h
  refine zMetT (own := RL) [(0, .ref (g.2.2.1 0)), (1, .ref (g.2.2.1 131))] (by decide +kernel) rfl (Nat.le_of_ble_eq_true rfl) rfl (fun p e s m args below meth c C hr ht => ?_)
  refine zm_aload_n C dL_back_0 rfl 1 rfl ?_
  refine zm_iconst (v := 0) C dL_back_1 (by decide) ?_
  refine zm_aload_n C dL_back_2 rfl 0 rfl ?_
  refine zx_ci (zrX_V (As := []) (rest := [.int (0 : Int32), .ref (g.2.2.1 131)]) C (c_X9_back l hstk g u (v, o, dd)  h) wd_695 wd_696 wd_697 wd_1 wd_698 hy_X9_back rfl rfl ⟨by decide, by decide⟩ ⟨by decide, by decide⟩ (ci := 9) (by decide) (zCell_k kd_0) rfl rfl rfl rfl (Nat.le_of_ble_eq_true rfl) dL_back_3) (fun E M1 hq => ?_) (fun r M1 hq => ?_)
  · obtain ⟨u1, rfl, h⟩ := hq
    obtain ⟨rfl, h⟩ := h
    refine zm_catch (name := "java/lang/UnsupportedOperationException") C [] ⟨0, 8, 11, 13⟩ [] ht (fun z hz => nomatch hz) (by decide) (by decide) wd_346 wd_377 (fun q => ?_)
    refine zm_astore_n (lv' := [(2, .ref q), (0, .ref (g.2.2.1 0)), (1, .ref (g.2.2.1 131))]) C dL_back_11 rfl (by decide) rfl ?_
    refine zm_iconst (v := 1) C dL_back_12 (by decide) ?_
    exact zm_iret C hr dL_back_13 ⟨u1, o, rfl, h⟩
  · obtain ⟨u1, rfl, h⟩ := hq
    refine zm_i2l C dL_back_6 ?_
    refine zm_stL C zIn01 rfl dL_back_7 ?_
    refine zm_goto (tgt := 14) C dL_back_8 (by decide) ?_
    refine zm_iconst (v := 0) C dL_back_14 (by decide) ?_
    exact zm_iret C hr dL_back_15 ⟨u1, _, rfl, h⟩
def w_L_position (x1 : Int32) (x2 : Int32) (x3 : Int32) (x4 : Int32) (u : MU) (o : (Nat → Int64)) (Q : Int32 → MU → (Nat → Int64) → Prop) : Prop := w_X9_position x1 x2 x3 x4 u (fun r u1 => Q (0 : Int32) u1 (vp_updL o ((0 : Int32)).toNatClampNeg r.toInt64)) (fun E u1 => (E = "java/util/NoSuchElementException" ∧ Q (1 : Int32) u1 o))
abbrev rm_L_position : Room := { frames := 7, cells := 1, slots := 6, locals := 114 }
set_option maxHeartbeats 4000000 in
set_option maxRecDepth 100000 in
theorem c_L_position (l : Launch) (hstk : l.stackTraces = false) (g : GE) (u v : MU) (o : (Nat → Int64)) (dd : Nat → UInt64) (x1 : Int32) (x2 : Int32) (x3 : Int32) (x4 : Int32) {Q : Int32 → MU → (Nat → Int64) → Prop} (h : w_L_position x1 x2 x3 x4 u o Q) : Met l yL_position (.codeWith yL_position cL_position 7 (Option.some Jvm.ClassFile.FieldType.int) [((0 : Nat), (14 : Nat), (17 : Nat), (46 : Nat))] :: TB) rm_L_position (zPc g (u, v, o, dd) [.ref (g.2.2.1 0), .int x1, .int x2, .int x3, .int x4, .ref (g.2.2.1 131)]) (zQi g (zPl v dd Q)) 1 6 (zA g) := by
  unfold w_L_position at h
  refine zMetT (own := RL) [(0, .ref (g.2.2.1 0)), (1, .int x1), (2, .int x2), (3, .int x3), (4, .int x4), (5, .ref (g.2.2.1 131))] (by decide +kernel) rfl (Nat.le_of_ble_eq_true rfl) rfl (fun p e s m args below meth c C hr ht => ?_)
  refine zm_aload C dL_position_0 5 rfl ?_
  refine zm_iconst (v := 0) C dL_position_2 (by decide) ?_
  refine zm_aload_n C dL_position_3 rfl 0 rfl ?_
  refine zm_iload_n C dL_position_4 rfl 1 rfl ?_
  refine zm_iload_n C dL_position_5 rfl 2 rfl ?_
  refine zm_iload_n C dL_position_6 rfl 3 rfl ?_
  refine zm_iload C dL_position_7 4 rfl ?_
  refine zx_ci (zrX_V (As := [.int x1, .int x2, .int x3, .int x4]) (rest := [.int (0 : Int32), .ref (g.2.2.1 131)]) C (c_X9_position l hstk g u (v, o, dd) x1 x2 x3 x4 h) wd_707 wd_708 wd_709 wd_1 wd_710 hy_X9_position rfl rfl ⟨by decide, by decide⟩ ⟨by decide, by decide⟩ (ci := 9) (by decide) (zCell_k kd_0) rfl rfl rfl rfl (Nat.le_of_ble_eq_true rfl) dL_position_9) (fun E M1 hq => ?_) (fun r M1 hq => ?_)
  · obtain ⟨u1, rfl, h⟩ := hq
    obtain ⟨rfl, h⟩ := h
    refine zm_catch (name := "java/util/NoSuchElementException") C [] ⟨0, 14, 17, 46⟩ [] ht (fun z hz => nomatch hz) (by decide) (by decide) wd_706 wd_714 (fun q => ?_)
    refine zm_astore (lv' := [(6, .ref q), (0, .ref (g.2.2.1 0)), (1, .int x1), (2, .int x2), (3, .int x3), (4, .int x4), (5, .ref (g.2.2.1 131))]) C dL_position_17 (by decide) rfl ?_
    refine zm_iconst (v := 1) C dL_position_19 (by decide) ?_
    exact zm_iret C hr dL_position_20 ⟨u1, o, rfl, h⟩
  · obtain ⟨u1, rfl, h⟩ := hq
    refine zm_i2l C dL_position_12 ?_
    refine zm_stL C zIn01 rfl dL_position_13 ?_
    refine zm_goto (tgt := 21) C dL_position_14 (by decide) ?_
    refine zm_iconst (v := 0) C dL_position_21 (by decide) ?_
    exact zm_iret C hr dL_position_22 ⟨u1, _, rfl, h⟩
def w_L_positionOf (x1 : Int32) (x2 : Int32) (u : MU) (o : (Nat → Int64)) (Q : Int32 → MU → (Nat → Int64) → Prop) : Prop := w_X9_positionOf x1 x2 u (fun r u1 => Q (0 : Int32) u1 (vp_updL o ((0 : Int32)).toNatClampNeg r.toInt64)) (fun E u1 => (E = "java/lang/IllegalArgumentException" ∧ Q (1 : Int32) u1 o) ∨ (E = "java/util/NoSuchElementException" ∧ Q (2 : Int32) u1 o))
abbrev rm_L_positionOf : Room := { frames := 8, cells := 1, slots := 6, locals := 133 }
set_option maxHeartbeats 4000000 in
set_option maxRecDepth 100000 in
theorem c_L_positionOf (l : Launch) (hstk : l.stackTraces = false) (g : GE) (u v : MU) (o : (Nat → Int64)) (dd : Nat → UInt64) (x1 : Int32) (x2 : Int32) {Q : Int32 → MU → (Nat → Int64) → Prop} (h : w_L_positionOf x1 x2 u o Q) : Met l yL_positionOf (.codeWith yL_positionOf cL_positionOf 5 (Option.some Jvm.ClassFile.FieldType.int) [((0 : Nat), (10 : Nat), (13 : Nat), (51 : Nat)), ((0 : Nat), (10 : Nat), (17 : Nat), (46 : Nat))] :: TB) rm_L_positionOf (zPc g (u, v, o, dd) [.ref (g.2.2.1 0), .int x1, .int x2, .ref (g.2.2.1 131)]) (zQi g (zPl v dd Q)) 1 6 (zA g) := by
  unfold w_L_positionOf at h
  refine zMetT (own := RL) [(0, .ref (g.2.2.1 0)), (1, .int x1), (2, .int x2), (3, .ref (g.2.2.1 131))] (by decide +kernel) rfl (Nat.le_of_ble_eq_true rfl) rfl (fun p e s m args below meth c C hr ht => ?_)
  refine zm_aload_n C dL_positionOf_0 rfl 3 rfl ?_
  refine zm_iconst (v := 0) C dL_positionOf_1 (by decide) ?_
  refine zm_aload_n C dL_positionOf_2 rfl 0 rfl ?_
  refine zm_iload_n C dL_positionOf_3 rfl 1 rfl ?_
  refine zm_iload_n C dL_positionOf_4 rfl 2 rfl ?_
  refine zx_ci (zrX_V (As := [.int x1, .int x2]) (rest := [.int (0 : Int32), .ref (g.2.2.1 131)]) C (c_X9_positionOf l hstk g u (v, o, dd) x1 x2 h) wd_732 wd_733 wd_734 wd_1 wd_735 hy_X9_positionOf rfl rfl ⟨by decide, by decide⟩ ⟨by decide, by decide⟩ (ci := 9) (by decide) (zCell_k kd_0) rfl rfl rfl rfl (Nat.le_of_ble_eq_true rfl) dL_positionOf_5) (fun E M1 hq => ?_) (fun r M1 hq => ?_)
  · obtain ⟨u1, rfl, h⟩ := hq
    rcases h with ⟨rfl, h⟩ | ⟨rfl, h⟩
    · refine zm_catch (name := "java/lang/IllegalArgumentException") C [] ⟨0, 10, 13, 51⟩ [⟨0, 10, 17, 46⟩] ht (fun z hz => nomatch hz) (by decide) (by decide) wd_731 wd_738 (fun q => ?_)
      refine zm_astore (lv' := [(4, .ref q), (0, .ref (g.2.2.1 0)), (1, .int x1), (2, .int x2), (3, .ref (g.2.2.1 131))]) C dL_positionOf_13 (by decide) rfl ?_
      refine zm_iconst (v := 1) C dL_positionOf_15 (by decide) ?_
      exact zm_iret C hr dL_positionOf_16 ⟨u1, o, rfl, h⟩
    · refine zm_catch (name := "java/util/NoSuchElementException") C [⟨0, 10, 13, 51⟩] ⟨0, 10, 17, 46⟩ [] ht (fun z hz => by rw [List.mem_singleton] at hz; subst hz; exact Or.inr ⟨by decide, "java/lang/IllegalArgumentException", wd_731, by decide⟩) (by decide) (by decide) wd_706 wd_714 (fun q => ?_)
      refine zm_astore (lv' := [(4, .ref q), (0, .ref (g.2.2.1 0)), (1, .int x1), (2, .int x2), (3, .ref (g.2.2.1 131))]) C dL_positionOf_17 (by decide) rfl ?_
      refine zm_iconst (v := 2) C dL_positionOf_19 (by decide) ?_
      exact zm_iret C hr dL_positionOf_20 ⟨u1, o, rfl, h⟩
  · obtain ⟨u1, rfl, h⟩ := hq
    refine zm_i2l C dL_positionOf_8 ?_
    refine zm_stL C zIn01 rfl dL_positionOf_9 ?_
    refine zm_goto (tgt := 21) C dL_positionOf_10 (by decide) ?_
    refine zm_iconst (v := 0) C dL_positionOf_21 (by decide) ?_
    exact zm_iret C hr dL_positionOf_22 ⟨u1, _, rfl, h⟩
def w_L_outcomeAgain (x1 : Int32) (u : MU) (o : (Nat → Int64)) (Q : Int32 → MU → (Nat → Int64) → Prop) : Prop := w_X9_outcomeAgain x1 u (fun r u1 => Q (0 : Int32) u1 (vp_updL o ((0 : Int32)).toNatClampNeg r.toInt64)) (fun E u1 => (E = "java/util/NoSuchElementException" ∧ Q (1 : Int32) u1 o))
abbrev rm_L_outcomeAgain : Room := { frames := 8, cells := 1, slots := 6, locals := 142 }
set_option maxHeartbeats 4000000 in
set_option maxRecDepth 100000 in
theorem c_L_outcomeAgain (l : Launch) (hstk : l.stackTraces = false) (g : GE) (u v : MU) (o : (Nat → Int64)) (dd : Nat → UInt64) (x1 : Int32) {Q : Int32 → MU → (Nat → Int64) → Prop} (h : w_L_outcomeAgain x1 u o Q) : Met l yL_outcomeAgain (.codeWith yL_outcomeAgain cL_outcomeAgain 4 (Option.some Jvm.ClassFile.FieldType.int) [((0 : Nat), (9 : Nat), (12 : Nat), (46 : Nat))] :: TB) rm_L_outcomeAgain (zPc g (u, v, o, dd) [.ref (g.2.2.1 0), .int x1, .ref (g.2.2.1 131)]) (zQi g (zPl v dd Q)) 1 6 (zA g) := by
  unfold w_L_outcomeAgain at h
  refine zMetT (own := RL) [(0, .ref (g.2.2.1 0)), (1, .int x1), (2, .ref (g.2.2.1 131))] (by decide +kernel) rfl (Nat.le_of_ble_eq_true rfl) rfl (fun p e s m args below meth c C hr ht => ?_)
  refine zm_aload_n C dL_outcomeAgain_0 rfl 2 rfl ?_
  refine zm_iconst (v := 0) C dL_outcomeAgain_1 (by decide) ?_
  refine zm_aload_n C dL_outcomeAgain_2 rfl 0 rfl ?_
  refine zm_iload_n C dL_outcomeAgain_3 rfl 1 rfl ?_
  refine zx_ci (zrX_V (As := [.int x1]) (rest := [.int (0 : Int32), .ref (g.2.2.1 131)]) C (c_X9_outcomeAgain l hstk g u (v, o, dd) x1 h) wd_767 wd_768 wd_769 wd_1 wd_770 hy_X9_outcomeAgain rfl rfl ⟨by decide, by decide⟩ ⟨by decide, by decide⟩ (ci := 9) (by decide) (zCell_k kd_0) rfl rfl rfl rfl (Nat.le_of_ble_eq_true rfl) dL_outcomeAgain_4) (fun E M1 hq => ?_) (fun r M1 hq => ?_)
  · obtain ⟨u1, rfl, h⟩ := hq
    obtain ⟨rfl, h⟩ := h
    refine zm_catch (name := "java/util/NoSuchElementException") C [] ⟨0, 9, 12, 46⟩ [] ht (fun z hz => nomatch hz) (by decide) (by decide) wd_706 wd_714 (fun q => ?_)
    refine zm_astore_n (lv' := [(3, .ref q), (0, .ref (g.2.2.1 0)), (1, .int x1), (2, .ref (g.2.2.1 131))]) C dL_outcomeAgain_12 rfl (by decide) rfl ?_
    refine zm_iconst (v := 1) C dL_outcomeAgain_13 (by decide) ?_
    exact zm_iret C hr dL_outcomeAgain_14 ⟨u1, o, rfl, h⟩
  · obtain ⟨u1, rfl, h⟩ := hq
    refine zm_i2l C dL_outcomeAgain_7 ?_
    refine zm_stL C zIn01 rfl dL_outcomeAgain_8 ?_
    refine zm_goto (tgt := 15) C dL_outcomeAgain_9 (by decide) ?_
    refine zm_iconst (v := 0) C dL_outcomeAgain_15 (by decide) ?_
    exact zm_iret C hr dL_outcomeAgain_16 ⟨u1, _, rfl, h⟩
def w_L_moveOf (x1 : Int32) (x2 : Int32) (x3 : Int32) (u : MU) (o : (Nat → Int64)) (Q : Int32 → MU → (Nat → Int64) → Prop) : Prop := w_X9_moveOf x1 x2 x3 u (fun r u1 => Q (0 : Int32) u1 (vp_updL o ((0 : Int32)).toNatClampNeg r.toInt64)) (fun E u1 => (E = "java/util/NoSuchElementException" ∧ Q (1 : Int32) u1 o))
abbrev rm_L_moveOf : Room := { frames := 8, cells := 2, slots := 12, locals := 137 }
set_option maxHeartbeats 4000000 in
set_option maxRecDepth 100000 in
theorem c_L_moveOf (l : Launch) (hstk : l.stackTraces = false) (g : GE) (u v : MU) (o : (Nat → Int64)) (dd : Nat → UInt64) (x1 : Int32) (x2 : Int32) (x3 : Int32) {Q : Int32 → MU → (Nat → Int64) → Prop} (h : w_L_moveOf x1 x2 x3 u o Q) : Met l yL_moveOf (.codeWith yL_moveOf cL_moveOf 6 (Option.some Jvm.ClassFile.FieldType.int) [((0 : Nat), (12 : Nat), (15 : Nat), (46 : Nat))] :: TB) rm_L_moveOf (zPc g (u, v, o, dd) [.ref (g.2.2.1 0), .int x1, .int x2, .int x3, .ref (g.2.2.1 131)]) (zQi g (zPl v dd Q)) 2 12 (zA g) := by
  unfold w_L_moveOf at h
  refine zMetT (own := RL) [(0, .ref (g.2.2.1 0)), (1, .int x1), (2, .int x2), (3, .int x3), (4, .ref (g.2.2.1 131))] (by decide +kernel) rfl (Nat.le_of_ble_eq_true rfl) rfl (fun p e s m args below meth c C hr ht => ?_)
  refine zm_aload C dL_moveOf_0 4 rfl ?_
  refine zm_iconst (v := 0) C dL_moveOf_2 (by decide) ?_
  refine zm_aload_n C dL_moveOf_3 rfl 0 rfl ?_
  refine zm_iload_n C dL_moveOf_4 rfl 1 rfl ?_
  refine zm_iload_n C dL_moveOf_5 rfl 2 rfl ?_
  refine zm_iload_n C dL_moveOf_6 rfl 3 rfl ?_
  refine zx_ci (zrX_V (As := [.int x1, .int x2, .int x3]) (rest := [.int (0 : Int32), .ref (g.2.2.1 131)]) C (c_X9_moveOf l hstk g u (v, o, dd) x1 x2 x3 h) wd_796 wd_797 wd_798 wd_1 wd_799 hy_X9_moveOf rfl rfl ⟨by decide, by decide⟩ ⟨by decide, by decide⟩ (ci := 9) (by decide) (zCell_k kd_0) rfl rfl rfl rfl (Nat.le_of_ble_eq_true rfl) dL_moveOf_7) (fun E M1 hq => ?_) (fun r M1 hq => ?_)
  · obtain ⟨u1, rfl, h⟩ := hq
    obtain ⟨rfl, h⟩ := h
    refine zm_catch (name := "java/util/NoSuchElementException") C [] ⟨0, 12, 15, 46⟩ [] ht (fun z hz => nomatch hz) (by decide) (by decide) wd_706 wd_714 (fun q => ?_)
    refine zm_astore (lv' := [(5, .ref q), (0, .ref (g.2.2.1 0)), (1, .int x1), (2, .int x2), (3, .int x3), (4, .ref (g.2.2.1 131))]) C dL_moveOf_15 (by decide) rfl ?_
    refine zm_iconst (v := 1) C dL_moveOf_17 (by decide) ?_
    exact zm_iret C hr dL_moveOf_18 ⟨u1, o, rfl, h⟩
  · obtain ⟨u1, rfl, h⟩ := hq
    refine zm_i2l C dL_moveOf_10 ?_
    refine zm_stL C zIn01 rfl dL_moveOf_11 ?_
    refine zm_goto (tgt := 19) C dL_moveOf_12 (by decide) ?_
    refine zm_iconst (v := 0) C dL_moveOf_19 (by decide) ?_
    exact zm_iret C hr dL_moveOf_20 ⟨u1, _, rfl, h⟩
def w_L_best (x1 : Int32) (u : MU) (o : (Nat → Int64)) (Q : Int32 → MU → (Nat → Int64) → Prop) : Prop := w_X9_best x1 u (fun r u1 => Q (0 : Int32) u1 (vp_updL o ((0 : Int32)).toNatClampNeg r.toInt64)) (fun E u1 => (E = "java/util/NoSuchElementException" ∧ Q (1 : Int32) u1 o))
abbrev rm_L_best : Room := { frames := 8, cells := 2, slots := 12, locals := 133 }
set_option maxHeartbeats 4000000 in
set_option maxRecDepth 100000 in
theorem c_L_best (l : Launch) (hstk : l.stackTraces = false) (g : GE) (u v : MU) (o : (Nat → Int64)) (dd : Nat → UInt64) (x1 : Int32) {Q : Int32 → MU → (Nat → Int64) → Prop} (h : w_L_best x1 u o Q) : Met l yL_best (.codeWith yL_best cL_best 4 (Option.some Jvm.ClassFile.FieldType.int) [((0 : Nat), (9 : Nat), (12 : Nat), (46 : Nat))] :: TB) rm_L_best (zPc g (u, v, o, dd) [.ref (g.2.2.1 0), .int x1, .ref (g.2.2.1 131)]) (zQi g (zPl v dd Q)) 2 12 (zA g) := by
  unfold w_L_best at h
  refine zMetT (own := RL) [(0, .ref (g.2.2.1 0)), (1, .int x1), (2, .ref (g.2.2.1 131))] (by decide +kernel) rfl (Nat.le_of_ble_eq_true rfl) rfl (fun p e s m args below meth c C hr ht => ?_)
  refine zm_aload_n C dL_best_0 rfl 2 rfl ?_
  refine zm_iconst (v := 0) C dL_best_1 (by decide) ?_
  refine zm_aload_n C dL_best_2 rfl 0 rfl ?_
  refine zm_iload_n C dL_best_3 rfl 1 rfl ?_
  refine zx_ci (zrX_V (As := [.int x1]) (rest := [.int (0 : Int32), .ref (g.2.2.1 131)]) C (c_X9_best l hstk g u (v, o, dd) x1 h) wd_806 wd_807 wd_808 wd_1 wd_809 hy_X9_best rfl rfl ⟨by decide, by decide⟩ ⟨by decide, by decide⟩ (ci := 9) (by decide) (zCell_k kd_0) rfl rfl rfl rfl (Nat.le_of_ble_eq_true rfl) dL_best_4) (fun E M1 hq => ?_) (fun r M1 hq => ?_)
  · obtain ⟨u1, rfl, h⟩ := hq
    obtain ⟨rfl, h⟩ := h
    refine zm_catch (name := "java/util/NoSuchElementException") C [] ⟨0, 9, 12, 46⟩ [] ht (fun z hz => nomatch hz) (by decide) (by decide) wd_706 wd_714 (fun q => ?_)
    refine zm_astore_n (lv' := [(3, .ref q), (0, .ref (g.2.2.1 0)), (1, .int x1), (2, .ref (g.2.2.1 131))]) C dL_best_12 rfl (by decide) rfl ?_
    refine zm_iconst (v := 1) C dL_best_13 (by decide) ?_
    exact zm_iret C hr dL_best_14 ⟨u1, o, rfl, h⟩
  · obtain ⟨u1, rfl, h⟩ := hq
    refine zm_i2l C dL_best_7 ?_
    refine zm_stL C zIn01 rfl dL_best_8 ?_
    refine zm_goto (tgt := 15) C dL_best_9 (by decide) ?_
    refine zm_iconst (v := 0) C dL_best_15 (by decide) ?_
    exact zm_iret C hr dL_best_16 ⟨u1, _, rfl, h⟩
def w_L_after (x1 : Int32) (x2 : Int32) (x3 : Int32) (u : MU) (o : (Nat → Int64)) (Q : Int32 → MU → (Nat → Int64) → Prop) : Prop := w_X9_after x1 x2 x3 u (fun r u1 => Q (0 : Int32) u1 (vp_updL o ((0 : Int32)).toNatClampNeg r.toInt64)) (fun E u1 => (E = "java/util/NoSuchElementException" ∧ Q (1 : Int32) u1 o))
abbrev rm_L_after : Room := { frames := 8, cells := 2, slots := 12, locals := 134 }
set_option maxHeartbeats 4000000 in
set_option maxRecDepth 100000 in
theorem c_L_after (l : Launch) (hstk : l.stackTraces = false) (g : GE) (u v : MU) (o : (Nat → Int64)) (dd : Nat → UInt64) (x1 : Int32) (x2 : Int32) (x3 : Int32) {Q : Int32 → MU → (Nat → Int64) → Prop} (h : w_L_after x1 x2 x3 u o Q) : Met l yL_after (.codeWith yL_after cL_after 6 (Option.some Jvm.ClassFile.FieldType.int) [((0 : Nat), (12 : Nat), (15 : Nat), (46 : Nat))] :: TB) rm_L_after (zPc g (u, v, o, dd) [.ref (g.2.2.1 0), .int x1, .int x2, .int x3, .ref (g.2.2.1 131)]) (zQi g (zPl v dd Q)) 2 12 (zA g) := by
  unfold w_L_after at h
  refine zMetT (own := RL) [(0, .ref (g.2.2.1 0)), (1, .int x1), (2, .int x2), (3, .int x3), (4, .ref (g.2.2.1 131))] (by decide +kernel) rfl (Nat.le_of_ble_eq_true rfl) rfl (fun p e s m args below meth c C hr ht => ?_)
  refine zm_aload C dL_after_0 4 rfl ?_
  refine zm_iconst (v := 0) C dL_after_2 (by decide) ?_
  refine zm_aload_n C dL_after_3 rfl 0 rfl ?_
  refine zm_iload_n C dL_after_4 rfl 1 rfl ?_
  refine zm_iload_n C dL_after_5 rfl 2 rfl ?_
  refine zm_iload_n C dL_after_6 rfl 3 rfl ?_
  refine zx_ci (zrX_V (As := [.int x1, .int x2, .int x3]) (rest := [.int (0 : Int32), .ref (g.2.2.1 131)]) C (c_X9_after l hstk g u (v, o, dd) x1 x2 x3 h) wd_814 wd_815 wd_816 wd_1 wd_817 hy_X9_after rfl rfl ⟨by decide, by decide⟩ ⟨by decide, by decide⟩ (ci := 9) (by decide) (zCell_k kd_0) rfl rfl rfl rfl (Nat.le_of_ble_eq_true rfl) dL_after_7) (fun E M1 hq => ?_) (fun r M1 hq => ?_)
  · obtain ⟨u1, rfl, h⟩ := hq
    obtain ⟨rfl, h⟩ := h
    refine zm_catch (name := "java/util/NoSuchElementException") C [] ⟨0, 12, 15, 46⟩ [] ht (fun z hz => nomatch hz) (by decide) (by decide) wd_706 wd_714 (fun q => ?_)
    refine zm_astore (lv' := [(5, .ref q), (0, .ref (g.2.2.1 0)), (1, .int x1), (2, .int x2), (3, .int x3), (4, .ref (g.2.2.1 131))]) C dL_after_15 (by decide) rfl ?_
    refine zm_iconst (v := 1) C dL_after_17 (by decide) ?_
    exact zm_iret C hr dL_after_18 ⟨u1, o, rfl, h⟩
  · obtain ⟨u1, rfl, h⟩ := hq
    refine zm_i2l C dL_after_10 ?_
    refine zm_stL C zIn01 rfl dL_after_11 ?_
    refine zm_goto (tgt := 19) C dL_after_12 (by decide) ?_
    refine zm_iconst (v := 0) C dL_after_19 (by decide) ?_
    exact zm_iret C hr dL_after_20 ⟨u1, _, rfl, h⟩
def w_L_ends (x1 : Int32) (u : MU) (o : (Nat → Int64)) (Q : Int32 → MU → (Nat → Int64) → Prop) : Prop := w_X9_ends x1 u (fun r u1 => Q (0 : Int32) u1 (vp_updL o ((0 : Int32)).toNatClampNeg r.toInt64)) (fun E u1 => (E = "java/util/NoSuchElementException" ∧ Q (1 : Int32) u1 o))
abbrev rm_L_ends : Room := { frames := 8, cells := 2, slots := 12, locals := 136 }
set_option maxHeartbeats 4000000 in
set_option maxRecDepth 100000 in
theorem c_L_ends (l : Launch) (hstk : l.stackTraces = false) (g : GE) (u v : MU) (o : (Nat → Int64)) (dd : Nat → UInt64) (x1 : Int32) {Q : Int32 → MU → (Nat → Int64) → Prop} (h : w_L_ends x1 u o Q) : Met l yL_ends (.codeWith yL_ends cL_ends 4 (Option.some Jvm.ClassFile.FieldType.int) [((0 : Nat), (9 : Nat), (12 : Nat), (46 : Nat))] :: TB) rm_L_ends (zPc g (u, v, o, dd) [.ref (g.2.2.1 0), .int x1, .ref (g.2.2.1 131)]) (zQi g (zPl v dd Q)) 2 12 (zA g) := by
  unfold w_L_ends at h
  refine zMetT (own := RL) [(0, .ref (g.2.2.1 0)), (1, .int x1), (2, .ref (g.2.2.1 131))] (by decide +kernel) rfl (Nat.le_of_ble_eq_true rfl) rfl (fun p e s m args below meth c C hr ht => ?_)
  refine zm_aload_n C dL_ends_0 rfl 2 rfl ?_
  refine zm_iconst (v := 0) C dL_ends_1 (by decide) ?_
  refine zm_aload_n C dL_ends_2 rfl 0 rfl ?_
  refine zm_iload_n C dL_ends_3 rfl 1 rfl ?_
  refine zx_ci (zrX_V (As := [.int x1]) (rest := [.int (0 : Int32), .ref (g.2.2.1 131)]) C (c_X9_ends l hstk g u (v, o, dd) x1 h) wd_822 wd_823 wd_824 wd_1 wd_825 hy_X9_ends rfl rfl ⟨by decide, by decide⟩ ⟨by decide, by decide⟩ (ci := 9) (by decide) (zCell_k kd_0) rfl rfl rfl rfl (Nat.le_of_ble_eq_true rfl) dL_ends_4) (fun E M1 hq => ?_) (fun r M1 hq => ?_)
  · obtain ⟨u1, rfl, h⟩ := hq
    obtain ⟨rfl, h⟩ := h
    refine zm_catch (name := "java/util/NoSuchElementException") C [] ⟨0, 9, 12, 46⟩ [] ht (fun z hz => nomatch hz) (by decide) (by decide) wd_706 wd_714 (fun q => ?_)
    refine zm_astore_n (lv' := [(3, .ref q), (0, .ref (g.2.2.1 0)), (1, .int x1), (2, .ref (g.2.2.1 131))]) C dL_ends_12 rfl (by decide) rfl ?_
    refine zm_iconst (v := 1) C dL_ends_13 (by decide) ?_
    exact zm_iret C hr dL_ends_14 ⟨u1, o, rfl, h⟩
  · obtain ⟨u1, rfl, h⟩ := hq
    refine zm_i2l C dL_ends_7 ?_
    refine zm_stL C zIn01 rfl dL_ends_8 ?_
    refine zm_goto (tgt := 15) C dL_ends_9 (by decide) ?_
    refine zm_iconst (v := 0) C dL_ends_15 (by decide) ?_
    exact zm_iret C hr dL_ends_16 ⟨u1, _, rfl, h⟩
def w_L_count (x1 : Int32) (x2 : Int32) (u : MU) (o : (Nat → Int64)) (Q : Int32 → MU → (Nat → Int64) → Prop) : Prop := w_X9_count x1 x2 u (fun r u1 => Q (0 : Int32) u1 (vp_updL o ((0 : Int32)).toNatClampNeg r.toInt64)) (fun E u1 => (E = "java/lang/IllegalArgumentException" ∧ Q (1 : Int32) u1 o))
abbrev rm_L_count : Room := { frames := 7, cells := 1, slots := 6, locals := 133 }
set_option maxHeartbeats 4000000 in
set_option maxRecDepth 100000 in
theorem c_L_count (l : Launch) (hstk : l.stackTraces = false) (g : GE) (u v : MU) (o : (Nat → Int64)) (dd : Nat → UInt64) (x1 : Int32) (x2 : Int32) {Q : Int32 → MU → (Nat → Int64) → Prop} (h : w_L_count x1 x2 u o Q) : Met l yL_count (.codeWith yL_count cL_count 5 (Option.some Jvm.ClassFile.FieldType.int) [((0 : Nat), (10 : Nat), (13 : Nat), (51 : Nat))] :: TB) rm_L_count (zPc g (u, v, o, dd) [.ref (g.2.2.1 0), .int x1, .int x2, .ref (g.2.2.1 131)]) (zQi g (zPl v dd Q)) 1 6 (zA g) := by
  unfold w_L_count at h
  refine zMetT (own := RL) [(0, .ref (g.2.2.1 0)), (1, .int x1), (2, .int x2), (3, .ref (g.2.2.1 131))] (by decide +kernel) rfl (Nat.le_of_ble_eq_true rfl) rfl (fun p e s m args below meth c C hr ht => ?_)
  refine zm_aload_n C dL_count_0 rfl 3 rfl ?_
  refine zm_iconst (v := 0) C dL_count_1 (by decide) ?_
  refine zm_aload_n C dL_count_2 rfl 0 rfl ?_
  refine zm_iload_n C dL_count_3 rfl 1 rfl ?_
  refine zm_iload_n C dL_count_4 rfl 2 rfl ?_
  refine zx_ci (zrX_V (As := [.int x1, .int x2]) (rest := [.int (0 : Int32), .ref (g.2.2.1 131)]) C (c_X9_count l hstk g u (v, o, dd) x1 x2 h) wd_830 wd_831 wd_832 wd_1 wd_833 hy_X9_count rfl rfl ⟨by decide, by decide⟩ ⟨by decide, by decide⟩ (ci := 9) (by decide) (zCell_k kd_0) rfl rfl rfl rfl (Nat.le_of_ble_eq_true rfl) dL_count_5) (fun E M1 hq => ?_) (fun r M1 hq => ?_)
  · obtain ⟨u1, rfl, h⟩ := hq
    obtain ⟨rfl, h⟩ := h
    refine zm_catch (name := "java/lang/IllegalArgumentException") C [] ⟨0, 10, 13, 51⟩ [] ht (fun z hz => nomatch hz) (by decide) (by decide) wd_731 wd_738 (fun q => ?_)
    refine zm_astore (lv' := [(4, .ref q), (0, .ref (g.2.2.1 0)), (1, .int x1), (2, .int x2), (3, .ref (g.2.2.1 131))]) C dL_count_13 (by decide) rfl ?_
    refine zm_iconst (v := 1) C dL_count_15 (by decide) ?_
    exact zm_iret C hr dL_count_16 ⟨u1, o, rfl, h⟩
  · obtain ⟨u1, rfl, h⟩ := hq
    refine zm_i2l C dL_count_8 ?_
    refine zm_stL C zIn01 rfl dL_count_9 ?_
    refine zm_goto (tgt := 17) C dL_count_10 (by decide) ?_
    refine zm_iconst (v := 0) C dL_count_17 (by decide) ?_
    exact zm_iret C hr dL_count_18 ⟨u1, _, rfl, h⟩
def w_L_longest (x1 : Int32) (u : MU) (o : (Nat → Int64)) (Q : Int32 → MU → (Nat → Int64) → Prop) : Prop := w_X9_longest x1 u (fun r u1 => Q (0 : Int32) u1 (vp_updL o ((0 : Int32)).toNatClampNeg r.toInt64)) (fun E u1 => (E = "java/util/NoSuchElementException" ∧ Q (1 : Int32) u1 o))
abbrev rm_L_longest : Room := { frames := 7, cells := 1, slots := 6, locals := 134 }
set_option maxHeartbeats 4000000 in
set_option maxRecDepth 100000 in
theorem c_L_longest (l : Launch) (hstk : l.stackTraces = false) (g : GE) (u v : MU) (o : (Nat → Int64)) (dd : Nat → UInt64) (x1 : Int32) {Q : Int32 → MU → (Nat → Int64) → Prop} (h : w_L_longest x1 u o Q) : Met l yL_longest (.codeWith yL_longest cL_longest 4 (Option.some Jvm.ClassFile.FieldType.int) [((0 : Nat), (9 : Nat), (12 : Nat), (46 : Nat))] :: TB) rm_L_longest (zPc g (u, v, o, dd) [.ref (g.2.2.1 0), .int x1, .ref (g.2.2.1 131)]) (zQi g (zPl v dd Q)) 1 6 (zA g) := by
  unfold w_L_longest at h
  refine zMetT (own := RL) [(0, .ref (g.2.2.1 0)), (1, .int x1), (2, .ref (g.2.2.1 131))] (by decide +kernel) rfl (Nat.le_of_ble_eq_true rfl) rfl (fun p e s m args below meth c C hr ht => ?_)
  refine zm_aload_n C dL_longest_0 rfl 2 rfl ?_
  refine zm_iconst (v := 0) C dL_longest_1 (by decide) ?_
  refine zm_aload_n C dL_longest_2 rfl 0 rfl ?_
  refine zm_iload_n C dL_longest_3 rfl 1 rfl ?_
  refine zx_ci (zrX_V (As := [.int x1]) (rest := [.int (0 : Int32), .ref (g.2.2.1 131)]) C (c_X9_longest l hstk g u (v, o, dd) x1 h) wd_842 wd_843 wd_844 wd_1 wd_845 hy_X9_longest rfl rfl ⟨by decide, by decide⟩ ⟨by decide, by decide⟩ (ci := 9) (by decide) (zCell_k kd_0) rfl rfl rfl rfl (Nat.le_of_ble_eq_true rfl) dL_longest_4) (fun E M1 hq => ?_) (fun r M1 hq => ?_)
  · obtain ⟨u1, rfl, h⟩ := hq
    obtain ⟨rfl, h⟩ := h
    refine zm_catch (name := "java/util/NoSuchElementException") C [] ⟨0, 9, 12, 46⟩ [] ht (fun z hz => nomatch hz) (by decide) (by decide) wd_706 wd_714 (fun q => ?_)
    refine zm_astore_n (lv' := [(3, .ref q), (0, .ref (g.2.2.1 0)), (1, .int x1), (2, .ref (g.2.2.1 131))]) C dL_longest_12 rfl (by decide) rfl ?_
    refine zm_iconst (v := 1) C dL_longest_13 (by decide) ?_
    exact zm_iret C hr dL_longest_14 ⟨u1, o, rfl, h⟩
  · obtain ⟨u1, rfl, h⟩ := hq
    refine zm_i2l C dL_longest_7 ?_
    refine zm_stL C zIn01 rfl dL_longest_8 ?_
    refine zm_goto (tgt := 15) C dL_longest_9 (by decide) ?_
    refine zm_iconst (v := 0) C dL_longest_15 (by decide) ?_
    exact zm_iret C hr dL_longest_16 ⟨u1, _, rfl, h⟩
def w_L_wonIn (x1 : Int32) (u : MU) (o : (Nat → Int64)) (Q : Int32 → MU → (Nat → Int64) → Prop) : Prop := w_X9_wonIn x1 u (fun r u1 => Q (0 : Int32) u1 (vp_updL o ((0 : Int32)).toNatClampNeg r.toInt64)) (fun E u1 => (E = "java/lang/IllegalArgumentException" ∧ Q (1 : Int32) u1 o))
abbrev rm_L_wonIn : Room := { frames := 7, cells := 1, slots := 6, locals := 151 }
set_option maxHeartbeats 4000000 in
set_option maxRecDepth 100000 in
theorem c_L_wonIn (l : Launch) (hstk : l.stackTraces = false) (g : GE) (u v : MU) (o : (Nat → Int64)) (dd : Nat → UInt64) (x1 : Int32) {Q : Int32 → MU → (Nat → Int64) → Prop} (h : w_L_wonIn x1 u o Q) : Met l yL_wonIn (.codeWith yL_wonIn cL_wonIn 4 (Option.some Jvm.ClassFile.FieldType.int) [((0 : Nat), (9 : Nat), (12 : Nat), (51 : Nat))] :: TB) rm_L_wonIn (zPc g (u, v, o, dd) [.ref (g.2.2.1 0), .int x1, .ref (g.2.2.1 131)]) (zQi g (zPl v dd Q)) 1 6 (zA g) := by
  unfold w_L_wonIn at h
  refine zMetT (own := RL) [(0, .ref (g.2.2.1 0)), (1, .int x1), (2, .ref (g.2.2.1 131))] (by decide +kernel) rfl (Nat.le_of_ble_eq_true rfl) rfl (fun p e s m args below meth c C hr ht => ?_)
  refine zm_aload_n C dL_wonIn_0 rfl 2 rfl ?_
  refine zm_iconst (v := 0) C dL_wonIn_1 (by decide) ?_
  refine zm_aload_n C dL_wonIn_2 rfl 0 rfl ?_
  refine zm_iload_n C dL_wonIn_3 rfl 1 rfl ?_
  refine zx_ci (zrX_V (As := [.int x1]) (rest := [.int (0 : Int32), .ref (g.2.2.1 131)]) C (c_X9_wonIn l hstk g u (v, o, dd) x1 h) wd_850 wd_851 wd_852 wd_1 wd_853 hy_X9_wonIn rfl rfl ⟨by decide, by decide⟩ ⟨by decide, by decide⟩ (ci := 9) (by decide) (zCell_k kd_0) rfl rfl rfl rfl (Nat.le_of_ble_eq_true rfl) dL_wonIn_4) (fun E M1 hq => ?_) (fun r M1 hq => ?_)
  · obtain ⟨u1, rfl, h⟩ := hq
    obtain ⟨rfl, h⟩ := h
    refine zm_catch (name := "java/lang/IllegalArgumentException") C [] ⟨0, 9, 12, 51⟩ [] ht (fun z hz => nomatch hz) (by decide) (by decide) wd_731 wd_738 (fun q => ?_)
    refine zm_astore_n (lv' := [(3, .ref q), (0, .ref (g.2.2.1 0)), (1, .int x1), (2, .ref (g.2.2.1 131))]) C dL_wonIn_12 rfl (by decide) rfl ?_
    refine zm_iconst (v := 1) C dL_wonIn_13 (by decide) ?_
    exact zm_iret C hr dL_wonIn_14 ⟨u1, o, rfl, h⟩
  · obtain ⟨u1, rfl, h⟩ := hq
    refine zm_i2l C dL_wonIn_7 ?_
    refine zm_stL C zIn01 rfl dL_wonIn_8 ?_
    refine zm_goto (tgt := 15) C dL_wonIn_9 (by decide) ?_
    refine zm_iconst (v := 0) C dL_wonIn_15 (by decide) ?_
    exact zm_iret C hr dL_wonIn_16 ⟨u1, _, rfl, h⟩
def w_L_wouldChange (x1 : Int32) (x2 : Int32) (u : MU) (o : (Nat → Int64)) (Q : Int32 → MU → (Nat → Int64) → Prop) : Prop := w_X9_wouldChange x1 x2 u (fun r u1 => Q (0 : Int32) u1 (vp_updL o ((0 : Int32)).toNatClampNeg r.toInt64)) (fun E u1 => (E = "java/lang/IndexOutOfBoundsException" ∧ Q (1 : Int32) u1 o) ∨ (E = "java/lang/IllegalArgumentException" ∧ Q (2 : Int32) u1 o))
abbrev rm_L_wouldChange : Room := { frames := 7, cells := 1, slots := 6, locals := 267 }
set_option maxHeartbeats 4000000 in
set_option maxRecDepth 100000 in
theorem c_L_wouldChange (l : Launch) (hstk : l.stackTraces = false) (g : GE) (u v : MU) (o : (Nat → Int64)) (dd : Nat → UInt64) (x1 : Int32) (x2 : Int32) {Q : Int32 → MU → (Nat → Int64) → Prop} (h : w_L_wouldChange x1 x2 u o Q) : Met l yL_wouldChange (.codeWith yL_wouldChange cL_wouldChange 5 (Option.some Jvm.ClassFile.FieldType.int) [((0 : Nat), (10 : Nat), (13 : Nat), (83 : Nat)), ((0 : Nat), (10 : Nat), (17 : Nat), (51 : Nat))] :: TB) rm_L_wouldChange (zPc g (u, v, o, dd) [.ref (g.2.2.1 0), .int x1, .int x2, .ref (g.2.2.1 131)]) (zQi g (zPl v dd Q)) 1 6 (zA g) := by
  unfold w_L_wouldChange at h
  refine zMetT (own := RL) [(0, .ref (g.2.2.1 0)), (1, .int x1), (2, .int x2), (3, .ref (g.2.2.1 131))] (by decide +kernel) rfl (Nat.le_of_ble_eq_true rfl) rfl (fun p e s m args below meth c C hr ht => ?_)
  refine zm_aload_n C dL_wouldChange_0 rfl 3 rfl ?_
  refine zm_iconst (v := 0) C dL_wouldChange_1 (by decide) ?_
  refine zm_aload_n C dL_wouldChange_2 rfl 0 rfl ?_
  refine zm_iload_n C dL_wouldChange_3 rfl 1 rfl ?_
  refine zm_iload_n C dL_wouldChange_4 rfl 2 rfl ?_
  refine zx_ci (zrX_V (As := [.int x1, .int x2]) (rest := [.int (0 : Int32), .ref (g.2.2.1 131)]) C (c_X9_wouldChange l hstk g u (v, o, dd) x1 x2 h) wd_886 wd_887 wd_888 wd_1 wd_889 hy_X9_wouldChange rfl rfl ⟨by decide, by decide⟩ ⟨by decide, by decide⟩ (ci := 9) (by decide) (zCell_k kd_0) rfl rfl rfl rfl (Nat.le_of_ble_eq_true rfl) dL_wouldChange_5) (fun E M1 hq => ?_) (fun r M1 hq => ?_)
  · obtain ⟨u1, rfl, h⟩ := hq
    rcases h with ⟨rfl, h⟩ | ⟨rfl, h⟩
    · refine zm_catch (name := "java/lang/IndexOutOfBoundsException") C [] ⟨0, 10, 13, 83⟩ [⟨0, 10, 17, 51⟩] ht (fun z hz => nomatch hz) (by decide) (by decide) wd_862 wd_892 (fun q => ?_)
      refine zm_astore (lv' := [(4, .ref q), (0, .ref (g.2.2.1 0)), (1, .int x1), (2, .int x2), (3, .ref (g.2.2.1 131))]) C dL_wouldChange_13 (by decide) rfl ?_
      refine zm_iconst (v := 1) C dL_wouldChange_15 (by decide) ?_
      exact zm_iret C hr dL_wouldChange_16 ⟨u1, o, rfl, h⟩
    · refine zm_catch (name := "java/lang/IllegalArgumentException") C [⟨0, 10, 13, 83⟩] ⟨0, 10, 17, 51⟩ [] ht (fun z hz => by rw [List.mem_singleton] at hz; subst hz; exact Or.inr ⟨by decide, "java/lang/IndexOutOfBoundsException", wd_862, by decide⟩) (by decide) (by decide) wd_731 wd_738 (fun q => ?_)
      refine zm_astore (lv' := [(4, .ref q), (0, .ref (g.2.2.1 0)), (1, .int x1), (2, .int x2), (3, .ref (g.2.2.1 131))]) C dL_wouldChange_17 (by decide) rfl ?_
      refine zm_iconst (v := 2) C dL_wouldChange_19 (by decide) ?_
      exact zm_iret C hr dL_wouldChange_20 ⟨u1, o, rfl, h⟩
  · obtain ⟨u1, rfl, h⟩ := hq
    refine zm_i2l C dL_wouldChange_8 ?_
    refine zm_stL C zIn01 rfl dL_wouldChange_9 ?_
    refine zm_goto (tgt := 21) C dL_wouldChange_10 (by decide) ?_
    refine zm_iconst (v := 0) C dL_wouldChange_21 (by decide) ?_
    exact zm_iret C hr dL_wouldChange_22 ⟨u1, _, rfl, h⟩
def w_L_bestBurrow (x1 : Int32) (u : MU) (o : (Nat → Int64)) (Q : Int32 → MU → (Nat → Int64) → Prop) : Prop := w_X9_bestBurrow x1 u (fun r u1 => Q (0 : Int32) u1 (vp_updL o ((0 : Int32)).toNatClampNeg r.toInt64)) (fun E u1 => (E = "java/util/NoSuchElementException" ∧ Q (1 : Int32) u1 o))
abbrev rm_L_bestBurrow : Room := { frames := 8, cells := 2, slots := 12, locals := 136 }
set_option maxHeartbeats 4000000 in
set_option maxRecDepth 100000 in
theorem c_L_bestBurrow (l : Launch) (hstk : l.stackTraces = false) (g : GE) (u v : MU) (o : (Nat → Int64)) (dd : Nat → UInt64) (x1 : Int32) {Q : Int32 → MU → (Nat → Int64) → Prop} (h : w_L_bestBurrow x1 u o Q) : Met l yL_bestBurrow (.codeWith yL_bestBurrow cL_bestBurrow 4 (Option.some Jvm.ClassFile.FieldType.int) [((0 : Nat), (9 : Nat), (12 : Nat), (46 : Nat))] :: TB) rm_L_bestBurrow (zPc g (u, v, o, dd) [.ref (g.2.2.1 0), .int x1, .ref (g.2.2.1 131)]) (zQi g (zPl v dd Q)) 2 12 (zA g) := by
  unfold w_L_bestBurrow at h
  refine zMetT (own := RL) [(0, .ref (g.2.2.1 0)), (1, .int x1), (2, .ref (g.2.2.1 131))] (by decide +kernel) rfl (Nat.le_of_ble_eq_true rfl) rfl (fun p e s m args below meth c C hr ht => ?_)
  refine zm_aload_n C dL_bestBurrow_0 rfl 2 rfl ?_
  refine zm_iconst (v := 0) C dL_bestBurrow_1 (by decide) ?_
  refine zm_aload_n C dL_bestBurrow_2 rfl 0 rfl ?_
  refine zm_iload_n C dL_bestBurrow_3 rfl 1 rfl ?_
  refine zx_ci (zrX_V (As := [.int x1]) (rest := [.int (0 : Int32), .ref (g.2.2.1 131)]) C (c_X9_bestBurrow l hstk g u (v, o, dd) x1 h) wd_909 wd_910 wd_911 wd_1 wd_912 hy_X9_bestBurrow rfl rfl ⟨by decide, by decide⟩ ⟨by decide, by decide⟩ (ci := 9) (by decide) (zCell_k kd_0) rfl rfl rfl rfl (Nat.le_of_ble_eq_true rfl) dL_bestBurrow_4) (fun E M1 hq => ?_) (fun r M1 hq => ?_)
  · obtain ⟨u1, rfl, h⟩ := hq
    obtain ⟨rfl, h⟩ := h
    refine zm_catch (name := "java/util/NoSuchElementException") C [] ⟨0, 9, 12, 46⟩ [] ht (fun z hz => nomatch hz) (by decide) (by decide) wd_706 wd_714 (fun q => ?_)
    refine zm_astore_n (lv' := [(3, .ref q), (0, .ref (g.2.2.1 0)), (1, .int x1), (2, .ref (g.2.2.1 131))]) C dL_bestBurrow_12 rfl (by decide) rfl ?_
    refine zm_iconst (v := 1) C dL_bestBurrow_13 (by decide) ?_
    exact zm_iret C hr dL_bestBurrow_14 ⟨u1, o, rfl, h⟩
  · obtain ⟨u1, rfl, h⟩ := hq
    refine zm_i2l C dL_bestBurrow_7 ?_
    refine zm_stL C zIn01 rfl dL_bestBurrow_8 ?_
    refine zm_goto (tgt := 15) C dL_bestBurrow_9 (by decide) ?_
    refine zm_iconst (v := 0) C dL_bestBurrow_15 (by decide) ?_
    exact zm_iret C hr dL_bestBurrow_16 ⟨u1, _, rfl, h⟩
def w_L_burrowOf (x1 : Int32) (x2 : Int32) (u : MU) (o : (Nat → Int64)) (Q : Int32 → MU → (Nat → Int64) → Prop) : Prop := w_X9_burrowOf x1 x2 u (fun r u1 => Q (0 : Int32) u1 (vp_updL o ((0 : Int32)).toNatClampNeg r.toInt64)) (fun E u1 => (E = "java/lang/IndexOutOfBoundsException" ∧ Q (1 : Int32) u1 o) ∨ (E = "java/lang/IllegalArgumentException" ∧ Q (2 : Int32) u1 o))
abbrev rm_L_burrowOf : Room := { frames := 7, cells := 1, slots := 6, locals := 153 }
set_option maxHeartbeats 4000000 in
set_option maxRecDepth 100000 in
theorem c_L_burrowOf (l : Launch) (hstk : l.stackTraces = false) (g : GE) (u v : MU) (o : (Nat → Int64)) (dd : Nat → UInt64) (x1 : Int32) (x2 : Int32) {Q : Int32 → MU → (Nat → Int64) → Prop} (h : w_L_burrowOf x1 x2 u o Q) : Met l yL_burrowOf (.codeWith yL_burrowOf cL_burrowOf 5 (Option.some Jvm.ClassFile.FieldType.int) [((0 : Nat), (10 : Nat), (13 : Nat), (83 : Nat)), ((0 : Nat), (10 : Nat), (17 : Nat), (51 : Nat))] :: TB) rm_L_burrowOf (zPc g (u, v, o, dd) [.ref (g.2.2.1 0), .int x1, .int x2, .ref (g.2.2.1 131)]) (zQi g (zPl v dd Q)) 1 6 (zA g) := by
  unfold w_L_burrowOf at h
  refine zMetT (own := RL) [(0, .ref (g.2.2.1 0)), (1, .int x1), (2, .int x2), (3, .ref (g.2.2.1 131))] (by decide +kernel) rfl (Nat.le_of_ble_eq_true rfl) rfl (fun p e s m args below meth c C hr ht => ?_)
  refine zm_aload_n C dL_burrowOf_0 rfl 3 rfl ?_
  refine zm_iconst (v := 0) C dL_burrowOf_1 (by decide) ?_
  refine zm_aload_n C dL_burrowOf_2 rfl 0 rfl ?_
  refine zm_iload_n C dL_burrowOf_3 rfl 1 rfl ?_
  refine zm_iload_n C dL_burrowOf_4 rfl 2 rfl ?_
  refine zx_ci (zrX_V (As := [.int x1, .int x2]) (rest := [.int (0 : Int32), .ref (g.2.2.1 131)]) C (c_X9_burrowOf l hstk g u (v, o, dd) x1 x2 h) wd_923 wd_924 wd_925 wd_1 wd_926 hy_X9_burrowOf rfl rfl ⟨by decide, by decide⟩ ⟨by decide, by decide⟩ (ci := 9) (by decide) (zCell_k kd_0) rfl rfl rfl rfl (Nat.le_of_ble_eq_true rfl) dL_burrowOf_5) (fun E M1 hq => ?_) (fun r M1 hq => ?_)
  · obtain ⟨u1, rfl, h⟩ := hq
    rcases h with ⟨rfl, h⟩ | ⟨rfl, h⟩
    · refine zm_catch (name := "java/lang/IndexOutOfBoundsException") C [] ⟨0, 10, 13, 83⟩ [⟨0, 10, 17, 51⟩] ht (fun z hz => nomatch hz) (by decide) (by decide) wd_862 wd_892 (fun q => ?_)
      refine zm_astore (lv' := [(4, .ref q), (0, .ref (g.2.2.1 0)), (1, .int x1), (2, .int x2), (3, .ref (g.2.2.1 131))]) C dL_burrowOf_13 (by decide) rfl ?_
      refine zm_iconst (v := 1) C dL_burrowOf_15 (by decide) ?_
      exact zm_iret C hr dL_burrowOf_16 ⟨u1, o, rfl, h⟩
    · refine zm_catch (name := "java/lang/IllegalArgumentException") C [⟨0, 10, 13, 83⟩] ⟨0, 10, 17, 51⟩ [] ht (fun z hz => by rw [List.mem_singleton] at hz; subst hz; exact Or.inr ⟨by decide, "java/lang/IndexOutOfBoundsException", wd_862, by decide⟩) (by decide) (by decide) wd_731 wd_738 (fun q => ?_)
      refine zm_astore (lv' := [(4, .ref q), (0, .ref (g.2.2.1 0)), (1, .int x1), (2, .int x2), (3, .ref (g.2.2.1 131))]) C dL_burrowOf_17 (by decide) rfl ?_
      refine zm_iconst (v := 2) C dL_burrowOf_19 (by decide) ?_
      exact zm_iret C hr dL_burrowOf_20 ⟨u1, o, rfl, h⟩
  · obtain ⟨u1, rfl, h⟩ := hq
    refine zm_i2l C dL_burrowOf_8 ?_
    refine zm_stL C zIn01 rfl dL_burrowOf_9 ?_
    refine zm_goto (tgt := 21) C dL_burrowOf_10 (by decide) ?_
    refine zm_iconst (v := 0) C dL_burrowOf_21 (by decide) ?_
    exact zm_iret C hr dL_burrowOf_22 ⟨u1, _, rfl, h⟩
def w_L_pathOf (x1 : Int32) (x2 : Int32) (u : MU) (o : (Nat → Int64)) (Q : Int32 → MU → (Nat → Int64) → Prop) : Prop := w_X9_pathOf x1 x2 u (fun r u1 => Q (0 : Int32) u1 (vp_updL o ((0 : Int32)).toNatClampNeg r.toInt64)) (fun E u1 => (E = "java/lang/IndexOutOfBoundsException" ∧ Q (1 : Int32) u1 o))
abbrev rm_L_pathOf : Room := { frames := 7, cells := 1, slots := 6, locals := 112 }
set_option maxHeartbeats 4000000 in
set_option maxRecDepth 100000 in
theorem c_L_pathOf (l : Launch) (hstk : l.stackTraces = false) (g : GE) (u v : MU) (o : (Nat → Int64)) (dd : Nat → UInt64) (x1 : Int32) (x2 : Int32) {Q : Int32 → MU → (Nat → Int64) → Prop} (h : w_L_pathOf x1 x2 u o Q) : Met l yL_pathOf (.codeWith yL_pathOf cL_pathOf 5 (Option.some Jvm.ClassFile.FieldType.int) [((0 : Nat), (10 : Nat), (13 : Nat), (83 : Nat))] :: TB) rm_L_pathOf (zPc g (u, v, o, dd) [.ref (g.2.2.1 0), .int x1, .int x2, .ref (g.2.2.1 131)]) (zQi g (zPl v dd Q)) 1 6 (zA g) := by
  unfold w_L_pathOf at h
  refine zMetT (own := RL) [(0, .ref (g.2.2.1 0)), (1, .int x1), (2, .int x2), (3, .ref (g.2.2.1 131))] (by decide +kernel) rfl (Nat.le_of_ble_eq_true rfl) rfl (fun p e s m args below meth c C hr ht => ?_)
  refine zm_aload_n C dL_pathOf_0 rfl 3 rfl ?_
  refine zm_iconst (v := 0) C dL_pathOf_1 (by decide) ?_
  refine zm_aload_n C dL_pathOf_2 rfl 0 rfl ?_
  refine zm_iload_n C dL_pathOf_3 rfl 1 rfl ?_
  refine zm_iload_n C dL_pathOf_4 rfl 2 rfl ?_
  refine zx_ci (zrX_V (As := [.int x1, .int x2]) (rest := [.int (0 : Int32), .ref (g.2.2.1 131)]) C (c_X9_pathOf l hstk g u (v, o, dd) x1 x2 h) wd_936 wd_937 wd_938 wd_1 wd_939 hy_X9_pathOf rfl rfl ⟨by decide, by decide⟩ ⟨by decide, by decide⟩ (ci := 9) (by decide) (zCell_k kd_0) rfl rfl rfl rfl (Nat.le_of_ble_eq_true rfl) dL_pathOf_5) (fun E M1 hq => ?_) (fun r M1 hq => ?_)
  · obtain ⟨u1, rfl, h⟩ := hq
    obtain ⟨rfl, h⟩ := h
    refine zm_catch (name := "java/lang/IndexOutOfBoundsException") C [] ⟨0, 10, 13, 83⟩ [] ht (fun z hz => nomatch hz) (by decide) (by decide) wd_862 wd_892 (fun q => ?_)
    refine zm_astore (lv' := [(4, .ref q), (0, .ref (g.2.2.1 0)), (1, .int x1), (2, .int x2), (3, .ref (g.2.2.1 131))]) C dL_pathOf_13 (by decide) rfl ?_
    refine zm_iconst (v := 1) C dL_pathOf_15 (by decide) ?_
    exact zm_iret C hr dL_pathOf_16 ⟨u1, o, rfl, h⟩
  · obtain ⟨u1, rfl, h⟩ := hq
    refine zm_i2l C dL_pathOf_8 ?_
    refine zm_stL C zIn01 rfl dL_pathOf_9 ?_
    refine zm_goto (tgt := 17) C dL_pathOf_10 (by decide) ?_
    refine zm_iconst (v := 0) C dL_pathOf_17 (by decide) ?_
    exact zm_iret C hr dL_pathOf_18 ⟨u1, _, rfl, h⟩
def w_L_now (u : MU) (o : (Nat → Int64)) (Q : Int32 → MU → (Nat → Int64) → Prop) : Prop := w_X9_now  u (fun r u1 => Q (0 : Int32) u1 (vp_updL o ((0 : Int32)).toNatClampNeg r.toInt64)) (fun E u1 => (E = "java/util/NoSuchElementException" ∧ Q (1 : Int32) u1 o))
abbrev rm_L_now : Room := { frames := 7, cells := 1, slots := 6, locals := 110 }
set_option maxHeartbeats 4000000 in
set_option maxRecDepth 100000 in
theorem c_L_now (l : Launch) (hstk : l.stackTraces = false) (g : GE) (u v : MU) (o : (Nat → Int64)) (dd : Nat → UInt64) {Q : Int32 → MU → (Nat → Int64) → Prop} (h : w_L_now  u o Q) : Met l yL_now (.codeWith yL_now cL_now 3 (Option.some Jvm.ClassFile.FieldType.int) [((0 : Nat), (8 : Nat), (11 : Nat), (46 : Nat))] :: TB) rm_L_now (zPc g (u, v, o, dd) [.ref (g.2.2.1 0), .ref (g.2.2.1 131)]) (zQi g (zPl v dd Q)) 1 6 (zA g) := by
  unfold w_L_now at h
  refine zMetT (own := RL) [(0, .ref (g.2.2.1 0)), (1, .ref (g.2.2.1 131))] (by decide +kernel) rfl (Nat.le_of_ble_eq_true rfl) rfl (fun p e s m args below meth c C hr ht => ?_)
  refine zm_aload_n C dL_now_0 rfl 1 rfl ?_
  refine zm_iconst (v := 0) C dL_now_1 (by decide) ?_
  refine zm_aload_n C dL_now_2 rfl 0 rfl ?_
  refine zx_ci (zrX_V (As := []) (rest := [.int (0 : Int32), .ref (g.2.2.1 131)]) C (c_X9_now l hstk g u (v, o, dd)  h) wd_944 wd_945 wd_946 wd_1 wd_947 hy_X9_now rfl rfl ⟨by decide, by decide⟩ ⟨by decide, by decide⟩ (ci := 9) (by decide) (zCell_k kd_0) rfl rfl rfl rfl (Nat.le_of_ble_eq_true rfl) dL_now_3) (fun E M1 hq => ?_) (fun r M1 hq => ?_)
  · obtain ⟨u1, rfl, h⟩ := hq
    obtain ⟨rfl, h⟩ := h
    refine zm_catch (name := "java/util/NoSuchElementException") C [] ⟨0, 8, 11, 46⟩ [] ht (fun z hz => nomatch hz) (by decide) (by decide) wd_706 wd_714 (fun q => ?_)
    refine zm_astore_n (lv' := [(2, .ref q), (0, .ref (g.2.2.1 0)), (1, .ref (g.2.2.1 131))]) C dL_now_11 rfl (by decide) rfl ?_
    refine zm_iconst (v := 1) C dL_now_12 (by decide) ?_
    exact zm_iret C hr dL_now_13 ⟨u1, o, rfl, h⟩
  · obtain ⟨u1, rfl, h⟩ := hq
    refine zm_i2l C dL_now_6 ?_
    refine zm_stL C zIn01 rfl dL_now_7 ?_
    refine zm_goto (tgt := 14) C dL_now_8 (by decide) ?_
    refine zm_iconst (v := 0) C dL_now_14 (by decide) ?_
    exact zm_iret C hr dL_now_15 ⟨u1, _, rfl, h⟩
def w_L_append (x1 : Int32) (u : MU) (o : (Nat → Int64)) (Q : Int32 → MU → (Nat → Int64) → Prop) : Prop := w_X9_append x1 u (fun r u1 => Q (0 : Int32) u1 (vp_updL o ((0 : Int32)).toNatClampNeg r.toInt64)) (fun E u1 => (E = "java/lang/IllegalStateException" ∧ Q (1 : Int32) u1 o))
abbrev rm_L_append : Room := { frames := 7, cells := 1, slots := 6, locals := 111 }
set_option maxHeartbeats 4000000 in
set_option maxRecDepth 100000 in
theorem c_L_append (l : Launch) (hstk : l.stackTraces = false) (g : GE) (u v : MU) (o : (Nat → Int64)) (dd : Nat → UInt64) (x1 : Int32) {Q : Int32 → MU → (Nat → Int64) → Prop} (h : w_L_append x1 u o Q) : Met l yL_append (.codeWith yL_append cL_append 4 (Option.some Jvm.ClassFile.FieldType.int) [((0 : Nat), (9 : Nat), (12 : Nat), (101 : Nat))] :: TB) rm_L_append (zPc g (u, v, o, dd) [.ref (g.2.2.1 0), .int x1, .ref (g.2.2.1 131)]) (zQi g (zPl v dd Q)) 1 6 (zA g) := by
  unfold w_L_append at h
  refine zMetT (own := RL) [(0, .ref (g.2.2.1 0)), (1, .int x1), (2, .ref (g.2.2.1 131))] (by decide +kernel) rfl (Nat.le_of_ble_eq_true rfl) rfl (fun p e s m args below meth c C hr ht => ?_)
  refine zm_aload_n C dL_append_0 rfl 2 rfl ?_
  refine zm_iconst (v := 0) C dL_append_1 (by decide) ?_
  refine zm_aload_n C dL_append_2 rfl 0 rfl ?_
  refine zm_iload_n C dL_append_3 rfl 1 rfl ?_
  refine zx_ci (zrX_V (As := [.int x1]) (rest := [.int (0 : Int32), .ref (g.2.2.1 131)]) C (c_X9_append l hstk g u (v, o, dd) x1 h) wd_953 wd_954 wd_955 wd_1 wd_956 hy_X9_append rfl rfl ⟨by decide, by decide⟩ ⟨by decide, by decide⟩ (ci := 9) (by decide) (zCell_k kd_0) rfl rfl rfl rfl (Nat.le_of_ble_eq_true rfl) dL_append_4) (fun E M1 hq => ?_) (fun r M1 hq => ?_)
  · obtain ⟨u1, rfl, h⟩ := hq
    obtain ⟨rfl, h⟩ := h
    refine zm_catch (name := "java/lang/IllegalStateException") C [] ⟨0, 9, 12, 101⟩ [] ht (fun z hz => nomatch hz) (by decide) (by decide) wd_952 wd_959 (fun q => ?_)
    refine zm_astore_n (lv' := [(3, .ref q), (0, .ref (g.2.2.1 0)), (1, .int x1), (2, .ref (g.2.2.1 131))]) C dL_append_12 rfl (by decide) rfl ?_
    refine zm_iconst (v := 1) C dL_append_13 (by decide) ?_
    exact zm_iret C hr dL_append_14 ⟨u1, o, rfl, h⟩
  · obtain ⟨u1, rfl, h⟩ := hq
    refine zm_i2l C dL_append_7 ?_
    refine zm_stL C zIn01 rfl dL_append_8 ?_
    refine zm_goto (tgt := 15) C dL_append_9 (by decide) ?_
    refine zm_iconst (v := 0) C dL_append_15 (by decide) ?_
    exact zm_iret C hr dL_append_16 ⟨u1, _, rfl, h⟩
def w_L_commands (u : MU) (o : (Nat → Int64)) (Q : Int32 → MU → (Nat → Int64) → Prop) : Prop := w_X9_commands  u (fun r u1 => Q (0 : Int32) u1 (vp_updL o ((0 : Int32)).toNatClampNeg r.toInt64)) (fun E u1 => (E = "java/lang/IllegalArgumentException" ∧ Q (1 : Int32) u1 o) ∨ (E = "java/lang/UnsupportedOperationException" ∧ Q (2 : Int32) u1 o))
abbrev rm_L_commands : Room := { frames := 8, cells := 1, slots := 6, locals := 328 }
set_option maxHeartbeats 4000000 in
set_option maxRecDepth 100000 in
theorem c_L_commands (l : Launch) (hstk : l.stackTraces = false) (g : GE) (u v : MU) (o : (Nat → Int64)) (dd : Nat → UInt64) {Q : Int32 → MU → (Nat → Int64) → Prop} (h : w_L_commands  u o Q) : Met l yL_commands (.codeWith yL_commands cL_commands 3 (Option.some Jvm.ClassFile.FieldType.int) [((0 : Nat), (8 : Nat), (11 : Nat), (51 : Nat)), ((0 : Nat), (8 : Nat), (14 : Nat), (13 : Nat))] :: TB) rm_L_commands (zPc g (u, v, o, dd) [.ref (g.2.2.1 0), .ref (g.2.2.1 131)]) (zQi g (zPl v dd Q)) 1 6 (zA g) := by
  unfold w_L_commands at h
  refine zMetT (own := RL) [(0, .ref (g.2.2.1 0)), (1, .ref (g.2.2.1 131))] (by decide +kernel) rfl (Nat.le_of_ble_eq_true rfl) rfl (fun p e s m args below meth c C hr ht => ?_)
  refine zm_aload_n C dL_commands_0 rfl 1 rfl ?_
  refine zm_iconst (v := 0) C dL_commands_1 (by decide) ?_
  refine zm_aload_n C dL_commands_2 rfl 0 rfl ?_
  refine zx_ci (zrX_V (As := []) (rest := [.int (0 : Int32), .ref (g.2.2.1 131)]) C (c_X9_commands l hstk g u (v, o, dd)  h) wd_976 wd_977 wd_978 wd_1 wd_979 hy_X9_commands rfl rfl ⟨by decide, by decide⟩ ⟨by decide, by decide⟩ (ci := 9) (by decide) (zCell_k kd_0) rfl rfl rfl rfl (Nat.le_of_ble_eq_true rfl) dL_commands_3) (fun E M1 hq => ?_) (fun r M1 hq => ?_)
  · obtain ⟨u1, rfl, h⟩ := hq
    rcases h with ⟨rfl, h⟩ | ⟨rfl, h⟩
    · refine zm_catch (name := "java/lang/IllegalArgumentException") C [] ⟨0, 8, 11, 51⟩ [⟨0, 8, 14, 13⟩] ht (fun z hz => nomatch hz) (by decide) (by decide) wd_731 wd_738 (fun q => ?_)
      refine zm_astore_n (lv' := [(2, .ref q), (0, .ref (g.2.2.1 0)), (1, .ref (g.2.2.1 131))]) C dL_commands_11 rfl (by decide) rfl ?_
      refine zm_iconst (v := 1) C dL_commands_12 (by decide) ?_
      exact zm_iret C hr dL_commands_13 ⟨u1, o, rfl, h⟩
    · refine zm_catch (name := "java/lang/UnsupportedOperationException") C [⟨0, 8, 11, 51⟩] ⟨0, 8, 14, 13⟩ [] ht (fun z hz => by rw [List.mem_singleton] at hz; subst hz; exact Or.inr ⟨by decide, "java/lang/IllegalArgumentException", wd_731, by decide⟩) (by decide) (by decide) wd_346 wd_377 (fun q => ?_)
      refine zm_astore_n (lv' := [(2, .ref q), (0, .ref (g.2.2.1 0)), (1, .ref (g.2.2.1 131))]) C dL_commands_14 rfl (by decide) rfl ?_
      refine zm_iconst (v := 2) C dL_commands_15 (by decide) ?_
      exact zm_iret C hr dL_commands_16 ⟨u1, o, rfl, h⟩
  · obtain ⟨u1, rfl, h⟩ := hq
    refine zm_i2l C dL_commands_6 ?_
    refine zm_stL C zIn01 rfl dL_commands_7 ?_
    refine zm_goto (tgt := 17) C dL_commands_8 (by decide) ?_
    refine zm_iconst (v := 0) C dL_commands_17 (by decide) ?_
    exact zm_iret C hr dL_commands_18 ⟨u1, _, rfl, h⟩
def w_L_reason (x1 : Int32) (u : MU) (o : (Nat → Int64)) (Q : Int32 → MU → (Nat → Int64) → Prop) : Prop := w_X9_reason x1 u (fun r u1 => Q (0 : Int32) u1 (vp_updL o ((0 : Int32)).toNatClampNeg r.toInt64)) (fun E u1 => (E = "java/lang/IllegalArgumentException" ∧ Q (1 : Int32) u1 o) ∨ (E = "java/util/NoSuchElementException" ∧ Q (2 : Int32) u1 o))
abbrev rm_L_reason : Room := { frames := 7, cells := 1, slots := 6, locals := 111 }
set_option maxHeartbeats 4000000 in
set_option maxRecDepth 100000 in
theorem c_L_reason (l : Launch) (hstk : l.stackTraces = false) (g : GE) (u v : MU) (o : (Nat → Int64)) (dd : Nat → UInt64) (x1 : Int32) {Q : Int32 → MU → (Nat → Int64) → Prop} (h : w_L_reason x1 u o Q) : Met l yL_reason (.codeWith yL_reason cL_reason 4 (Option.some Jvm.ClassFile.FieldType.int) [((0 : Nat), (9 : Nat), (12 : Nat), (51 : Nat)), ((0 : Nat), (9 : Nat), (15 : Nat), (46 : Nat))] :: TB) rm_L_reason (zPc g (u, v, o, dd) [.ref (g.2.2.1 0), .int x1, .ref (g.2.2.1 131)]) (zQi g (zPl v dd Q)) 1 6 (zA g) := by
  unfold w_L_reason at h
  refine zMetT (own := RL) [(0, .ref (g.2.2.1 0)), (1, .int x1), (2, .ref (g.2.2.1 131))] (by decide +kernel) rfl (Nat.le_of_ble_eq_true rfl) rfl (fun p e s m args below meth c C hr ht => ?_)
  refine zm_aload_n C dL_reason_0 rfl 2 rfl ?_
  refine zm_iconst (v := 0) C dL_reason_1 (by decide) ?_
  refine zm_aload_n C dL_reason_2 rfl 0 rfl ?_
  refine zm_iload_n C dL_reason_3 rfl 1 rfl ?_
  refine zx_ci (zrX_V (As := [.int x1]) (rest := [.int (0 : Int32), .ref (g.2.2.1 131)]) C (c_X9_reason l hstk g u (v, o, dd) x1 h) wd_1012 wd_1013 wd_1014 wd_1 wd_1015 hy_X9_reason rfl rfl ⟨by decide, by decide⟩ ⟨by decide, by decide⟩ (ci := 9) (by decide) (zCell_k kd_0) rfl rfl rfl rfl (Nat.le_of_ble_eq_true rfl) dL_reason_4) (fun E M1 hq => ?_) (fun r M1 hq => ?_)
  · obtain ⟨u1, rfl, h⟩ := hq
    rcases h with ⟨rfl, h⟩ | ⟨rfl, h⟩
    · refine zm_catch (name := "java/lang/IllegalArgumentException") C [] ⟨0, 9, 12, 51⟩ [⟨0, 9, 15, 46⟩] ht (fun z hz => nomatch hz) (by decide) (by decide) wd_731 wd_738 (fun q => ?_)
      refine zm_astore_n (lv' := [(3, .ref q), (0, .ref (g.2.2.1 0)), (1, .int x1), (2, .ref (g.2.2.1 131))]) C dL_reason_12 rfl (by decide) rfl ?_
      refine zm_iconst (v := 1) C dL_reason_13 (by decide) ?_
      exact zm_iret C hr dL_reason_14 ⟨u1, o, rfl, h⟩
    · refine zm_catch (name := "java/util/NoSuchElementException") C [⟨0, 9, 12, 51⟩] ⟨0, 9, 15, 46⟩ [] ht (fun z hz => by rw [List.mem_singleton] at hz; subst hz; exact Or.inr ⟨by decide, "java/lang/IllegalArgumentException", wd_731, by decide⟩) (by decide) (by decide) wd_706 wd_714 (fun q => ?_)
      refine zm_astore_n (lv' := [(3, .ref q), (0, .ref (g.2.2.1 0)), (1, .int x1), (2, .ref (g.2.2.1 131))]) C dL_reason_15 rfl (by decide) rfl ?_
      refine zm_iconst (v := 2) C dL_reason_16 (by decide) ?_
      exact zm_iret C hr dL_reason_17 ⟨u1, o, rfl, h⟩
  · obtain ⟨u1, rfl, h⟩ := hq
    refine zm_i2l C dL_reason_7 ?_
    refine zm_stL C zIn01 rfl dL_reason_8 ?_
    refine zm_goto (tgt := 18) C dL_reason_9 (by decide) ?_
    refine zm_iconst (v := 0) C dL_reason_18 (by decide) ?_
    exact zm_iret C hr dL_reason_19 ⟨u1, _, rfl, h⟩
def w_L_character (x1 : Int32) (u : MU) (o : (Nat → Int64)) (Q : Int32 → MU → (Nat → Int64) → Prop) : Prop := w_X9_character x1 u (fun r u1 => Q (0 : Int32) u1 (vp_updL o ((0 : Int32)).toNatClampNeg r.toInt64)) (fun E u1 => (E = "java/lang/IndexOutOfBoundsException" ∧ Q (1 : Int32) u1 o))
abbrev rm_L_character : Room := { frames := 7, cells := 1, slots := 6, locals := 111 }
set_option maxHeartbeats 4000000 in
set_option maxRecDepth 100000 in
theorem c_L_character (l : Launch) (hstk : l.stackTraces = false) (g : GE) (u v : MU) (o : (Nat → Int64)) (dd : Nat → UInt64) (x1 : Int32) {Q : Int32 → MU → (Nat → Int64) → Prop} (h : w_L_character x1 u o Q) : Met l yL_character (.codeWith yL_character cL_character 4 (Option.some Jvm.ClassFile.FieldType.int) [((0 : Nat), (9 : Nat), (12 : Nat), (83 : Nat))] :: TB) rm_L_character (zPc g (u, v, o, dd) [.ref (g.2.2.1 0), .int x1, .ref (g.2.2.1 131)]) (zQi g (zPl v dd Q)) 1 6 (zA g) := by
  unfold w_L_character at h
  refine zMetT (own := RL) [(0, .ref (g.2.2.1 0)), (1, .int x1), (2, .ref (g.2.2.1 131))] (by decide +kernel) rfl (Nat.le_of_ble_eq_true rfl) rfl (fun p e s m args below meth c C hr ht => ?_)
  refine zm_aload_n C dL_character_0 rfl 2 rfl ?_
  refine zm_iconst (v := 0) C dL_character_1 (by decide) ?_
  refine zm_aload_n C dL_character_2 rfl 0 rfl ?_
  refine zm_iload_n C dL_character_3 rfl 1 rfl ?_
  refine zx_ci (zrX_V (As := [.int x1]) (rest := [.int (0 : Int32), .ref (g.2.2.1 131)]) C (c_X9_character l hstk g u (v, o, dd) x1 h) wd_1021 wd_1022 wd_1023 wd_1 wd_1024 hy_X9_character rfl rfl ⟨by decide, by decide⟩ ⟨by decide, by decide⟩ (ci := 9) (by decide) (zCell_k kd_0) rfl rfl rfl rfl (Nat.le_of_ble_eq_true rfl) dL_character_4) (fun E M1 hq => ?_) (fun r M1 hq => ?_)
  · obtain ⟨u1, rfl, h⟩ := hq
    obtain ⟨rfl, h⟩ := h
    refine zm_catch (name := "java/lang/IndexOutOfBoundsException") C [] ⟨0, 9, 12, 83⟩ [] ht (fun z hz => nomatch hz) (by decide) (by decide) wd_862 wd_892 (fun q => ?_)
    refine zm_astore_n (lv' := [(3, .ref q), (0, .ref (g.2.2.1 0)), (1, .int x1), (2, .ref (g.2.2.1 131))]) C dL_character_12 rfl (by decide) rfl ?_
    refine zm_iconst (v := 1) C dL_character_13 (by decide) ?_
    exact zm_iret C hr dL_character_14 ⟨u1, o, rfl, h⟩
  · obtain ⟨u1, rfl, h⟩ := hq
    refine zm_i2l C dL_character_7 ?_
    refine zm_stL C zIn01 rfl dL_character_8 ?_
    refine zm_goto (tgt := 15) C dL_character_9 (by decide) ?_
    refine zm_iconst (v := 0) C dL_character_15 (by decide) ?_
    exact zm_iret C hr dL_character_16 ⟨u1, _, rfl, h⟩
def w_L_meanMoves (u : MU) (o : (Nat → UInt64)) (Q : Int32 → MU → (Nat → UInt64) → Prop) : Prop := w_X9_meanMoves  u (fun r u1 => Q (0 : Int32) u1 (vf_upd o ((0 : Int32)).toNatClampNeg r)) (fun E u1 => (E = "java/lang/ArithmeticException" ∧ Q (1 : Int32) u1 o))
abbrev rm_L_meanMoves : Room := { frames := 7, cells := 1, slots := 6, locals := 131 }
set_option maxHeartbeats 4000000 in
set_option maxRecDepth 100000 in
theorem c_L_meanMoves (l : Launch) (hstk : l.stackTraces = false) (g : GE) (u v : MU) (o : (Nat → UInt64)) (ll : Nat → Int64) {Q : Int32 → MU → (Nat → UInt64) → Prop} (h : w_L_meanMoves  u o Q) : Met l yL_meanMoves (.codeWith yL_meanMoves cL_meanMoves 3 (Option.some Jvm.ClassFile.FieldType.int) [((0 : Nat), (7 : Nat), (10 : Nat), (117 : Nat))] :: TB) rm_L_meanMoves (zPc g (u, v, ll, o) [.ref (g.2.2.1 0), .ref (g.2.2.1 132)]) (zQi g (zPd v ll Q)) 1 6 (zA g) := by
  unfold w_L_meanMoves at h
  refine zMetT (own := RL) [(0, .ref (g.2.2.1 0)), (1, .ref (g.2.2.1 132))] (by decide +kernel) rfl (Nat.le_of_ble_eq_true rfl) rfl (fun p e s m args below meth c C hr ht => ?_)
  refine zm_aload_n C dL_meanMoves_0 rfl 1 rfl ?_
  refine zm_iconst (v := 0) C dL_meanMoves_1 (by decide) ?_
  refine zm_aload_n C dL_meanMoves_2 rfl 0 rfl ?_
  refine zx_cd (zrX_V (As := []) (rest := [.int (0 : Int32), .ref (g.2.2.1 132)]) C (c_X9_meanMoves l hstk g u (v, ll, o)  h) wd_1044 wd_1045 wd_1046 wd_1 wd_1047 hy_X9_meanMoves rfl rfl ⟨by decide, by decide⟩ ⟨by decide, by decide⟩ (ci := 9) (by decide) (zCell_k kd_0) rfl rfl rfl rfl (Nat.le_of_ble_eq_true rfl) dL_meanMoves_3) (fun E M1 hq => ?_) (fun r M1 hq => ?_)
  · obtain ⟨u1, rfl, h⟩ := hq
    obtain ⟨rfl, h⟩ := h
    refine zm_catch (name := "java/lang/ArithmeticException") C [] ⟨0, 7, 10, 117⟩ [] ht (fun z hz => nomatch hz) (by decide) (by decide) wd_1030 wd_1042 (fun q => ?_)
    refine zm_astore_n (lv' := [(2, .ref q), (0, .ref (g.2.2.1 0)), (1, .ref (g.2.2.1 132))]) C dL_meanMoves_10 rfl (by decide) rfl ?_
    refine zm_iconst (v := 1) C dL_meanMoves_11 (by decide) ?_
    exact zm_iret C hr dL_meanMoves_12 ⟨u1, o, rfl, h⟩
  · obtain ⟨u1, rfl, h⟩ := hq
    refine zm_stD C zIn01 rfl dL_meanMoves_6 ?_
    refine zm_goto (tgt := 13) C dL_meanMoves_7 (by decide) ?_
    refine zm_iconst (v := 0) C dL_meanMoves_13 (by decide) ?_
    exact zm_iret C hr dL_meanMoves_14 ⟨u1, _, rfl, h⟩
def w_L_drawn (u : MU) (o : (Nat → UInt64)) (Q : Int32 → MU → (Nat → UInt64) → Prop) : Prop := w_X9_drawn  u (fun r u1 => vf_n64 (FP.f2d r) ∧ Q (0 : Int32) u1 (vf_upd o ((0 : Int32)).toNatClampNeg (FP.f2d r))) (fun E u1 => (E = "java/lang/ArithmeticException" ∧ Q (1 : Int32) u1 o))
abbrev rm_L_drawn : Room := { frames := 7, cells := 1, slots := 6, locals := 150 }
set_option maxHeartbeats 4000000 in
set_option maxRecDepth 100000 in
theorem c_L_drawn (l : Launch) (hstk : l.stackTraces = false) (g : GE) (u v : MU) (o : (Nat → UInt64)) (ll : Nat → Int64) {Q : Int32 → MU → (Nat → UInt64) → Prop} (h : w_L_drawn  u o Q) : Met l yL_drawn (.codeWith yL_drawn cL_drawn 3 (Option.some Jvm.ClassFile.FieldType.int) [((0 : Nat), (8 : Nat), (11 : Nat), (117 : Nat))] :: TB) rm_L_drawn (zPc g (u, v, ll, o) [.ref (g.2.2.1 0), .ref (g.2.2.1 132)]) (zQi g (zPd v ll Q)) 1 6 (zA g) := by
  unfold w_L_drawn at h
  refine zMetT (own := RL) [(0, .ref (g.2.2.1 0)), (1, .ref (g.2.2.1 132))] (by decide +kernel) rfl (Nat.le_of_ble_eq_true rfl) rfl (fun p e s m args below meth c C hr ht => ?_)
  refine zm_aload_n C dL_drawn_0 rfl 1 rfl ?_
  refine zm_iconst (v := 0) C dL_drawn_1 (by decide) ?_
  refine zm_aload_n C dL_drawn_2 rfl 0 rfl ?_
  refine zx_cf (zrX_V (As := []) (rest := [.int (0 : Int32), .ref (g.2.2.1 132)]) C (c_X9_drawn l hstk g u (v, ll, o)  h) wd_1054 wd_1055 wd_1056 wd_1 wd_1057 hy_X9_drawn rfl rfl ⟨by decide, by decide⟩ ⟨by decide, by decide⟩ (ci := 9) (by decide) (zCell_k kd_0) rfl rfl rfl rfl (Nat.le_of_ble_eq_true rfl) dL_drawn_3) (fun E M1 hq => ?_) (fun r M1 hq => ?_)
  · obtain ⟨u1, rfl, h⟩ := hq
    obtain ⟨rfl, h⟩ := h
    refine zm_catch (name := "java/lang/ArithmeticException") C [] ⟨0, 8, 11, 117⟩ [] ht (fun z hz => nomatch hz) (by decide) (by decide) wd_1030 wd_1042 (fun q => ?_)
    refine zm_astore_n (lv' := [(2, .ref q), (0, .ref (g.2.2.1 0)), (1, .ref (g.2.2.1 132))]) C dL_drawn_11 rfl (by decide) rfl ?_
    refine zm_iconst (v := 1) C dL_drawn_12 (by decide) ?_
    exact zm_iret C hr dL_drawn_13 ⟨u1, o, rfl, h⟩
  · obtain ⟨u1, rfl, h⟩ := hq
    obtain ⟨hg, h⟩ := h
    refine zm_f2d C dL_drawn_6 hg ?_
    refine zm_stD C zIn01 rfl dL_drawn_7 ?_
    refine zm_goto (tgt := 14) C dL_drawn_8 (by decide) ?_
    refine zm_iconst (v := 0) C dL_drawn_14 (by decide) ?_
    exact zm_iret C hr dL_drawn_15 ⟨u1, _, rfl, h⟩
def w_L_account (x1 : Int32) (u : MU) (o : (Nat → Int64)) (Q : Int32 → MU → (Nat → Int64) → Prop) : Prop := w_X9_account x1 u (fun r u1 => Q (0 : Int32) u1 (vp_updL o ((0 : Int32)).toNatClampNeg r.toInt64)) (fun E u1 => (E = "java/lang/IllegalArgumentException" ∧ Q (1 : Int32) u1 o))
abbrev rm_L_account : Room := { frames := 7, cells := 1, slots := 6, locals := 174 }
set_option maxHeartbeats 4000000 in
set_option maxRecDepth 100000 in
theorem c_L_account (l : Launch) (hstk : l.stackTraces = false) (g : GE) (u v : MU) (o : (Nat → Int64)) (dd : Nat → UInt64) (x1 : Int32) {Q : Int32 → MU → (Nat → Int64) → Prop} (h : w_L_account x1 u o Q) : Met l yL_account (.codeWith yL_account cL_account 4 (Option.some Jvm.ClassFile.FieldType.int) [((0 : Nat), (9 : Nat), (12 : Nat), (51 : Nat))] :: TB) rm_L_account (zPc g (u, v, o, dd) [.ref (g.2.2.1 0), .int x1, .ref (g.2.2.1 131)]) (zQi g (zPl v dd Q)) 1 6 (zA g) := by
  unfold w_L_account at h
  refine zMetT (own := RL) [(0, .ref (g.2.2.1 0)), (1, .int x1), (2, .ref (g.2.2.1 131))] (by decide +kernel) rfl (Nat.le_of_ble_eq_true rfl) rfl (fun p e s m args below meth c C hr ht => ?_)
  refine zm_aload_n C dL_account_0 rfl 2 rfl ?_
  refine zm_iconst (v := 0) C dL_account_1 (by decide) ?_
  refine zm_aload_n C dL_account_2 rfl 0 rfl ?_
  refine zm_iload_n C dL_account_3 rfl 1 rfl ?_
  refine zx_ci (zrX_V (As := [.int x1]) (rest := [.int (0 : Int32), .ref (g.2.2.1 131)]) C (c_X9_account l hstk g u (v, o, dd) x1 h) wd_1062 wd_1063 wd_1064 wd_1 wd_1065 hy_X9_account rfl rfl ⟨by decide, by decide⟩ ⟨by decide, by decide⟩ (ci := 9) (by decide) (zCell_k kd_0) rfl rfl rfl rfl (Nat.le_of_ble_eq_true rfl) dL_account_4) (fun E M1 hq => ?_) (fun r M1 hq => ?_)
  · obtain ⟨u1, rfl, h⟩ := hq
    obtain ⟨rfl, h⟩ := h
    refine zm_catch (name := "java/lang/IllegalArgumentException") C [] ⟨0, 9, 12, 51⟩ [] ht (fun z hz => nomatch hz) (by decide) (by decide) wd_731 wd_738 (fun q => ?_)
    refine zm_astore_n (lv' := [(3, .ref q), (0, .ref (g.2.2.1 0)), (1, .int x1), (2, .ref (g.2.2.1 131))]) C dL_account_12 rfl (by decide) rfl ?_
    refine zm_iconst (v := 1) C dL_account_13 (by decide) ?_
    exact zm_iret C hr dL_account_14 ⟨u1, o, rfl, h⟩
  · obtain ⟨u1, rfl, h⟩ := hq
    refine zm_i2l C dL_account_7 ?_
    refine zm_stL C zIn01 rfl dL_account_8 ?_
    refine zm_goto (tgt := 15) C dL_account_9 (by decide) ?_
    refine zm_iconst (v := 0) C dL_account_15 (by decide) ?_
    exact zm_iret C hr dL_account_16 ⟨u1, _, rfl, h⟩
def w_L_undo (u : MU) (o : (Nat → Int64)) (Q : Int32 → MU → (Nat → Int64) → Prop) : Prop := w_X9_undo  u (fun r u1 => Q (0 : Int32) u1 (vp_updL o ((0 : Int32)).toNatClampNeg r.toInt64)) (fun E u1 => (E = "java/lang/IllegalStateException" ∧ Q (1 : Int32) u1 o))
abbrev rm_L_undo : Room := { frames := 7, cells := 1, slots := 6, locals := 306 }
set_option maxHeartbeats 4000000 in
set_option maxRecDepth 100000 in
theorem c_L_undo (l : Launch) (hstk : l.stackTraces = false) (g : GE) (u v : MU) (o : (Nat → Int64)) (dd : Nat → UInt64) {Q : Int32 → MU → (Nat → Int64) → Prop} (h : w_L_undo  u o Q) : Met l yL_undo (.codeWith yL_undo cL_undo 3 (Option.some Jvm.ClassFile.FieldType.int) [((0 : Nat), (8 : Nat), (11 : Nat), (101 : Nat))] :: TB) rm_L_undo (zPc g (u, v, o, dd) [.ref (g.2.2.1 0), .ref (g.2.2.1 131)]) (zQi g (zPl v dd Q)) 1 6 (zA g) := by
  unfold w_L_undo at h
  refine zMetT (own := RL) [(0, .ref (g.2.2.1 0)), (1, .ref (g.2.2.1 131))] (by decide +kernel) rfl (Nat.le_of_ble_eq_true rfl) rfl (fun p e s m args below meth c C hr ht => ?_)
  refine zm_aload_n C dL_undo_0 rfl 1 rfl ?_
  refine zm_iconst (v := 0) C dL_undo_1 (by decide) ?_
  refine zm_aload_n C dL_undo_2 rfl 0 rfl ?_
  refine zx_ci (zrX_V (As := []) (rest := [.int (0 : Int32), .ref (g.2.2.1 131)]) C (c_X9_undo l hstk g u (v, o, dd)  h) wd_1074 wd_1075 wd_1076 wd_1 wd_1077 hy_X9_undo rfl rfl ⟨by decide, by decide⟩ ⟨by decide, by decide⟩ (ci := 9) (by decide) (zCell_k kd_0) rfl rfl rfl rfl (Nat.le_of_ble_eq_true rfl) dL_undo_3) (fun E M1 hq => ?_) (fun r M1 hq => ?_)
  · obtain ⟨u1, rfl, h⟩ := hq
    obtain ⟨rfl, h⟩ := h
    refine zm_catch (name := "java/lang/IllegalStateException") C [] ⟨0, 8, 11, 101⟩ [] ht (fun z hz => nomatch hz) (by decide) (by decide) wd_952 wd_959 (fun q => ?_)
    refine zm_astore_n (lv' := [(2, .ref q), (0, .ref (g.2.2.1 0)), (1, .ref (g.2.2.1 131))]) C dL_undo_11 rfl (by decide) rfl ?_
    refine zm_iconst (v := 1) C dL_undo_12 (by decide) ?_
    exact zm_iret C hr dL_undo_13 ⟨u1, o, rfl, h⟩
  · obtain ⟨u1, rfl, h⟩ := hq
    refine zm_i2l C dL_undo_6 ?_
    refine zm_stL C zIn01 rfl dL_undo_7 ?_
    refine zm_goto (tgt := 14) C dL_undo_8 (by decide) ?_
    refine zm_iconst (v := 0) C dL_undo_14 (by decide) ?_
    exact zm_iret C hr dL_undo_15 ⟨u1, _, rfl, h⟩
def w_L_restore (u : MU) (o : (Nat → Int64)) (Q : Int32 → MU → (Nat → Int64) → Prop) : Prop := w_X9_restore  u (fun r u1 => Q (0 : Int32) u1 (vp_updL o ((0 : Int32)).toNatClampNeg r.toInt64)) (fun E u1 => (E = "java/lang/IllegalStateException" ∧ Q (1 : Int32) u1 o))
abbrev rm_L_restore : Room := { frames := 7, cells := 1, slots := 6, locals := 283 }
set_option maxHeartbeats 4000000 in
set_option maxRecDepth 100000 in
theorem c_L_restore (l : Launch) (hstk : l.stackTraces = false) (g : GE) (u v : MU) (o : (Nat → Int64)) (dd : Nat → UInt64) {Q : Int32 → MU → (Nat → Int64) → Prop} (h : w_L_restore  u o Q) : Met l yL_restore (.codeWith yL_restore cL_restore 3 (Option.some Jvm.ClassFile.FieldType.int) [((0 : Nat), (8 : Nat), (11 : Nat), (101 : Nat))] :: TB) rm_L_restore (zPc g (u, v, o, dd) [.ref (g.2.2.1 0), .ref (g.2.2.1 131)]) (zQi g (zPl v dd Q)) 1 6 (zA g) := by
  unfold w_L_restore at h
  refine zMetT (own := RL) [(0, .ref (g.2.2.1 0)), (1, .ref (g.2.2.1 131))] (by decide +kernel) rfl (Nat.le_of_ble_eq_true rfl) rfl (fun p e s m args below meth c C hr ht => ?_)
  refine zm_aload_n C dL_restore_0 rfl 1 rfl ?_
  refine zm_iconst (v := 0) C dL_restore_1 (by decide) ?_
  refine zm_aload_n C dL_restore_2 rfl 0 rfl ?_
  refine zx_ci (zrX_V (As := []) (rest := [.int (0 : Int32), .ref (g.2.2.1 131)]) C (c_X9_restore l hstk g u (v, o, dd)  h) wd_1086 wd_1087 wd_1088 wd_1 wd_1089 hy_X9_restore rfl rfl ⟨by decide, by decide⟩ ⟨by decide, by decide⟩ (ci := 9) (by decide) (zCell_k kd_0) rfl rfl rfl rfl (Nat.le_of_ble_eq_true rfl) dL_restore_3) (fun E M1 hq => ?_) (fun r M1 hq => ?_)
  · obtain ⟨u1, rfl, h⟩ := hq
    obtain ⟨rfl, h⟩ := h
    refine zm_catch (name := "java/lang/IllegalStateException") C [] ⟨0, 8, 11, 101⟩ [] ht (fun z hz => nomatch hz) (by decide) (by decide) wd_952 wd_959 (fun q => ?_)
    refine zm_astore_n (lv' := [(2, .ref q), (0, .ref (g.2.2.1 0)), (1, .ref (g.2.2.1 131))]) C dL_restore_11 rfl (by decide) rfl ?_
    refine zm_iconst (v := 1) C dL_restore_12 (by decide) ?_
    exact zm_iret C hr dL_restore_13 ⟨u1, o, rfl, h⟩
  · obtain ⟨u1, rfl, h⟩ := hq
    refine zm_i2l C dL_restore_6 ?_
    refine zm_stL C zIn01 rfl dL_restore_7 ?_
    refine zm_goto (tgt := 14) C dL_restore_8 (by decide) ?_
    refine zm_iconst (v := 0) C dL_restore_14 (by decide) ?_
    exact zm_iret C hr dL_restore_15 ⟨u1, _, rfl, h⟩
