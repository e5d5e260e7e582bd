/-! the law's own methods: rows -/
theorem zMetT {l : Launch} {y : MethodName} {cc : ByteArray} {mL : Nat} {ret : Option FieldType} {rm : Room} {g : GE} {M : Mem} {av : List Value} {Qc : Array Value → State → Outcome → State → Prop} {mc ms : Nat} {own : String} {hh : List (Nat × Nat × Nat × Nat)} (lv0 : List (Nat × Value)) (hy : plainName y.cls = true) (ho : y.cls = own) (hav : (lg_sl av).length ≤ mL) (hlv : lv_args 0 av = lv0)
    (body : ∀ p e s m args below meth c, zCx p l s m args meth c g own cc mL → meth.sig.returnType = ret → c.exceptionTable.toList = tableOf hh → WM p l e rm s m args below meth c g mL 0 0 (MQ below Qc args s mc ms (zA g)) 0 lv0 [] M) : Met l y (Cond.codeWith y cc mL ret hh :: TB) rm (zPc g M av) Qc mc ms (zA g) := by
  refine MetFree.of_bodyS (code := cc) (maxLocals := mL) (ret := ret) hy ?_ ?_
  · intro args s m h hn
    obtain ⟨m9, meth, c, hn9, h1, h2, h3, h4, -, h5, h6, -⟩ := Cond.codeWith_spec (atoms_spec (ws := Cond.codeWith y cc mL ret hh :: TB) h _ List.mem_cons_self)
    cases hn.symm.trans hn9
    exact ⟨meth, c, h1, h2, h3, h4, h5, h6⟩
  · intro p e s m args below meth c s₁ B hml hv _
    obtain ⟨rfl, hpic, hfix, hdist, hbase⟩ := hv
    have hts := atoms_spec (ws := Cond.codeWith y cc mL ret hh :: TB) B.pre
    have ht := vx_table (x := y) B (hts _ List.mem_cons_self)
    have hh0 : s₁.heap = s.heap := by rw [B.state]; rfl
    subst ho
    subst hlv
    have K := body p e s m _ below meth c ⟨B.exec, B.bytes, hml, findClass_of_methodNamed B.named, fun w hw => hts w (List.mem_cons_of_mem _ hw), B.notSynchronized, hfix, hdist, hbase, hpic.2.2.2, hpic.2.1, hpic.2.2.1⟩ B.returns ht s.heap [] _ (lv_entry av hav) hpic va_S.rf
    rw [← lg_entry_eq] at K
    obtain ⟨t, a1, o, b1, b2, b3, b4⟩ := K s₁ hh0 (Stand.of_body B)
    exact ⟨t, o, a1, b1, b2, b3, b4⟩
section ZT
variable {p : Program} {l : Launch} {e : Env} {R : Room} {s : State} {m : MethodId} {args : Array Value} {below : List Frame} {meth : Method} {c : Code} {g : GE} {own : String} {cc : ByteArray} {nL cells slots mc ms : Nat} {Q : State → Prop} {pc : Nat} {lv lv' : List (Nat × Value)} {st st0 rest As : List Value} {M M' : Mem}
variable {y : MethodName} {bytes : ByteArray} {mL index n : Nat} {ret : Option FieldType} {rm : Room} {Qc : Array Value → State → Outcome → State → Prop} {hh : List (Nat × Nat × Nat × Nat)}
theorem zr_SW (C : zCx p l s m args meth c g own cc nL) (hM : Met l y (Cond.codeWith y bytes mL ret hh :: TB) rm (zPc g M As) Qc mc ms (zA g)) (w1 : Cond.methodLink own index y ∈ TB) (w2 : Cond.static y ∈ TB) (w3 : Cond.initialized y.cls ∈ TB) (w5 : Cond.codeWith y bytes mL ret hh ∈ TB) (hy : y.cls ≠ "java/lang/invoke/MethodHandle" ∧ y.cls ≠ "java/lang/invoke/VarHandle" ∧ (parseMethodDescriptor y.desc).map (fun d => d.parameters.length) = some n) (hrc : rm.cells = mc) (hrs : rm.slots = ms) (hR : rm.frames + 1 ≤ R.frames ∧ 8 + (mL + 11) + rm.locals ≤ R.locals) (hf : cells + mc ≤ R.cells ∧ slots + ms ≤ R.slots) (hn : As.length = n) (hst : st0 = As.reverse ++ rest) (hroom : (rest.map fun v => v.category).sum ≤ 8) (d : decode cc pc = .ok (.invokestatic index, 3)) : zRun p l e R s m args below meth c g nL cells slots mc ms pc lv st0 rest M (Qc (As).toArray) :=
  fun H locs ls hl hp hs => vx_runSW ⟨C.hx, C.hb, C.hml, C.hown, C.ht⟩ hM (vx_cwSW n C.ht (zGoodA (zMem3 w1 w2 w3) (zGood1 w5)) rfl hrc hrs hy hR) (zPre C hp hs As) rfl hn hl.1 hst (lv_room hroom) d hf
theorem zm_catch (C : zCx p l s m args meth c g own cc nL) {E name : String} (pre : List ExceptionTableEntry) (x : ExceptionTableEntry) (suf : List ExceptionTableEntry) (hsplit : c.exceptionTable.toList = pre ++ x :: suf)
    (hpass : ∀ z ∈ pre, covers z pc = false ∨ (z.catchType ≠ 0 ∧ ∃ nm : String, Cond.classLink own z.catchType nm ∈ TB ∧ (E, nm) ∈ zNc)) (hx : covers x pc = true) (h0 : x.catchType ≠ 0) (hlink : Cond.classLink own x.catchType name ∈ TB) (hcast : Cond.castable E name ∈ TN)
    (k : ∀ q : Addr, WM p l e R s m args below meth c g nL cells slots Q x.handlerPc lv [.ref q] M) : WX p l e R s m args below meth c g nL cells slots Q pc lv E M :=
  fun H locs ls ce q st hl hp hs hce hcv hcl => vx_catch C.hown pre x suf hsplit (fun z hz => (hpass z hz).imp id (fun h => ⟨h.1, h.2.imp fun nm h2 => ⟨C.ht _ h2.1, C.hfix.2.2.2.1 _ h2.2⟩⟩)) hx h0 (C.ht _ hlink) (va_Nw.use rfl (C.nw hcast)) hce hcv hcl (k q H locs ls hl hp hs)
end ZT
def zDc (g : GE) (M : Mem) (av : List Value) (a : Nat) (bs : List Int32) : Array Value → State → Prop := fun v U => zPc g M av v U ∧ zStrG g a bs U U.heap
theorem zDc_blind {g : GE} {M : Mem} {av : List Value} {a : Nat} {bs : List Int32} : FrameBlind (zDc g M av a bs) := by
  intro a0 U gf mk q
  exact ⟨zPc_blind a0 U gf mk q.1, zStrG.moved (U := U.calling gf mk a0) (Vm.Alike.refl U.vm) q.2⟩
section ZD
variable {p : Program} {l : Launch} {e : Env} {R : Room} {s : State} {m : MethodId} {args : Array Value} {below : List Frame} {meth : Method} {c : Code} {g : GE} {own : String} {cc : ByteArray} {nL cells slots mc ms : Nat} {Q : State → Prop} {pc : Nat} {lv lv' : List (Nat × Value)} {st st0 rest As : List Value} {M M' : Mem}
variable {y : MethodName} {bytes : ByteArray} {mL index n : Nat} {ret : Option FieldType} {rm : Room} {Qc : Array Value → State → Outcome → State → Prop}
theorem zr_D (C : zCx p l s m args meth c g own cc nL) {a : Nat} {bs : List Int32} (hM : Met l y (Cond.code y bytes mL ret :: TB) rm (zDc g M As a bs) Qc mc ms (zA g)) (hGs : ∀ (H : Heap) (locs : List Loc), zPic g M s H → va_S (zA g) s.heap H locs → zStrG g a bs s H) (w1 : Cond.methodLink own index y ∈ TB) (w2 : Cond.static y ∈ TB) (w3 : Cond.initialized own ∈ TB) (w5 : Cond.code y bytes mL ret ∈ TB) (hy : y.cls = own ∧ y.cls ≠ "java/lang/invoke/MethodHandle" ∧ y.cls ≠ "java/lang/invoke/VarHandle" ∧ (parseMethodDescriptor y.desc).map (fun d => d.parameters.length) = some n) (hrc : rm.cells = mc) (hrs : rm.slots = ms) (hR : rm.frames + 1 ≤ R.frames ∧ 8 + (mL + 11) + rm.locals ≤ R.locals) (hf : cells + mc ≤ R.cells ∧ slots + ms ≤ R.slots) (hn : As.length = n) (hst : st0 = As.reverse ++ rest) (hroom : (rest.map fun v => v.category).sum ≤ 8) (d : decode cc pc = .ok (.invokestatic index, 3)) : zRun p l e R s m args below meth c g nL cells slots mc ms pc lv st0 rest M (Qc (As).toArray) :=
  fun H locs ls hl hp hs => va_runS ⟨C.hx, C.hb, C.hml, C.hown, C.ht⟩ hM (cwS n C.ht (zGoodS w1 w2 w3 w5) rfl hrc hrs hy hR) ⟨zDc_blind, fun U hU hW => ⟨(zPre C hp hs As).2 U hU hW, by rw [hU]; exact (hGs H locs hp hs).moved hW.alike⟩⟩ rfl hn hl.1 hst (lv_room hroom) d hf
theorem zb_G {sb pb n a pc2 : Nat} {f : Nat → Int32} {bs : List Int32} {H : Heap} (h1 : bs.length = n) (h2 : ∀ k, k < bs.length → f k = bs.getD k 0) (hl : bs.length < 2 ^ 31) : zStrG (zGx g (g.2.2.2.2.1 ++ [(sb, zSB pb n), (pb, zBY g 16 f), (a, zSTR pc2), (pc2, zBY g n (va_cpy f (fun _ => 0) 0 0 n))])) a bs s H := by
  refine ⟨pc2, Or.inr ⟨g.2.2.2.2.1.length + 2, g.2.2.2.2.1.length + 3, va_cpy f (fun _ => 0) 0 0 n, ?_, ?_, fun k hk => ?_, hl⟩⟩
  · show (g.2.2.2.2.1 ++ _)[_]? = _
    rw [List.getElem?_append_right (Nat.le_add_right _ _), Nat.add_sub_cancel_left]
    rfl
  · show (g.2.2.2.2.1 ++ _)[_]? = _
    rw [List.getElem?_append_right (Nat.le_add_right _ _), Nat.add_sub_cancel_left, h1]
    rfl
  · rw [← h2 k hk]
    exact sb_cpy0 (by omega)
end ZD
theorem zMetD {l : Launch} {y : MethodName} {cc : ByteArray} {mL : Nat} {ret : Option FieldType} {rm : Room} {g : GE} {M : Mem} {av : List Value} {a : Nat} {bs : List Int32} {Qc : Array Value → State → Outcome → State → Prop} {mc ms : Nat} {own : String} (lv0 : List (Nat × Value)) (hy : plainName y.cls = true) (ho : y.cls = own) (hav : (lg_sl av).length ≤ mL) (hlv : lv_args 0 av = lv0)
    (body : ∀ p e s m args below meth c, zCx p l s m args meth c g own cc mL → meth.sig.returnType = ret → zStrG g a bs s s.heap → WM p l e rm s m args below meth c g mL 0 0 (MQ below Qc args s mc ms (zA g)) 0 lv0 [] M) : Met l y (Cond.code y cc mL ret :: TB) rm (zDc g M av a bs) Qc mc ms (zA g) := by
  refine Met.ofW (cc := cc) (maxL := mL) (ret := ret) hy rfl ?_
  intro p e s m args below meth c s₁ B hml hv
  obtain ⟨⟨rfl, hpic, hfix, hdist, hbase⟩, hG⟩ := hv
  have hts := atoms_spec (ws := Cond.code y cc mL ret :: TB) B.pre
  rw [lg_entry_eq]
  subst ho
  subst hlv
  exact body p e s m _ below meth c ⟨B.exec, B.bytes, hml, findClass_of_methodNamed B.named, fun w hw => hts w (List.mem_cons_of_mem _ hw), B.notSynchronized, hfix, hdist, hbase, hpic.2.2.2, hpic.2.1, hpic.2.2.1⟩ B.returns hG s.heap [] _ (lv_entry av hav) hpic va_S.rf
theorem zFloatRows : (Jvm.natives.all fun r => r.cls != "java/lang/Float" || (r.name != "isNaN" && r.name != "floatToIntBits")) = true := by decide +kernel
theorem zFloatPlain {x : MethodName} (hc : x.cls = "java/lang/Float") (hn : x.name = "isNaN" ∨ x.name = "floatToIntBits") : plainFor x = true := by
  unfold plainFor
  rw [Bool.or_eq_true]; right
  rw [Option.isNone_iff_eq_none, NativeRow.find?, List.find?_eq_none]
  intro r hr h
  have := List.all_eq_true.mp zFloatRows r hr
  simp only [Bool.and_eq_true, beq_iff_eq] at h
  rw [h.1.1, h.1.2, hc] at this
  rcases hn with e | e <;> rw [e] at this <;> simp at this
theorem zMetF {l : Launch} {y : MethodName} {cc : ByteArray} {mL : Nat} {ret : Option FieldType} {rm : Room} {g : GE} {M : Mem} {av : List Value} {Qc : Array Value → State → Outcome → State → Prop} {mc ms : Nat} {own : String} (lv0 : List (Nat × Value)) (hy : plainFor y = true) (ho : y.cls = own) (hav : (lg_sl av).length ≤ mL) (hlv : lv_args 0 av = lv0)
    (body : ∀ p e s m args below meth c, zCx p l s m args meth c g own cc mL → meth.sig.returnType = ret → WM p l e rm s m args below meth c g mL 0 0 (MQ below Qc args s mc ms (zA g)) 0 lv0 [] M) : Met l y (Cond.code y cc mL ret :: TB) rm (zPc g M av) Qc mc ms (zA g) := by
  refine MetFree.of_bodySF (code := cc) (maxLocals := mL) (ret := ret) hy ?_ ?_
  · intro args s m h hn
    obtain ⟨meth, c, h1, h2, h3, h4, h5, h6, -, -⟩ := Cond.code_spec hn (atoms_spec (ws := Cond.code y cc mL ret :: TB) h _ List.mem_cons_self)
    exact ⟨meth, c, h1, h2, h3, h4, h5, h6⟩
  · intro p e s m args below meth c s₁ B hml hv _
    obtain ⟨rfl, hpic, hfix, hdist, hbase⟩ := hv
    have hts := atoms_spec (ws := Cond.code y cc mL ret :: TB) B.pre
    have hh0 : s₁.heap = s.heap := by rw [B.state]; rfl
    subst ho
    subst hlv
    have K := body p e s m _ below meth c ⟨B.exec, B.bytes, hml, findClass_of_methodNamed B.named, fun w hw => hts w (List.mem_cons_of_mem _ hw), B.notSynchronized, hfix, hdist, hbase, hpic.2.2.2, hpic.2.1, hpic.2.2.1⟩ B.returns s.heap [] _ (lv_entry av hav) hpic va_S.rf
    rw [← lg_entry_eq] at K
    obtain ⟨t, a1, o, b1, b2, b3⟩ := K s₁ hh0 (Stand.of_body B)
    exact ⟨t, o, a1, b1, b2, ⟨b3.1, b3.2⟩⟩
theorem wd_27 : (Jvm.Cond.initialized "java/lang/Double") ∈ TB := zTB 27 (by decide +kernel) (by decide +kernel)
theorem wd_28 : (Jvm.Cond.initialized "java/lang/Float") ∈ TB := zTB 28 (by decide +kernel) (by decide +kernel)
theorem wd_338 : (Jvm.Cond.classLink "FoxBurrowsLaw" (13 : Nat) "java/lang/UnsupportedOperationException") ∈ TB := zTB 338 (by decide +kernel) (by decide +kernel)
theorem wd_339 : (Jvm.Cond.methodLink "FoxBurrowsLaw" (7 : Nat) ({ cls := "FoxBurrows", name := "dig", desc := "()I" } : Jvm.MethodName)) ∈ TB := zTB 339 (by decide +kernel) (by decide +kernel)
theorem wd_340 : (Jvm.Cond.instanceMethod ({ cls := "FoxBurrows", name := "dig", desc := "()I" } : Jvm.MethodName)) ∈ TB := zTB 340 (by decide +kernel) (by decide +kernel)
theorem wd_341 : (Jvm.Cond.selects "FoxBurrows" ({ cls := "FoxBurrows", name := "dig", desc := "()I" } : Jvm.MethodName) ({ cls := "FoxBurrows", name := "dig", desc := "()I" } : Jvm.MethodName)) ∈ TB := zTB 341 (by decide +kernel) (by decide +kernel)
theorem wd_342 : (Jvm.Cond.code ({ cls := "FoxBurrows", name := "dig", desc := "()I" } : Jvm.MethodName) prog_1_method_2_code (1 : Nat) (Option.some Jvm.ClassFile.FieldType.int)) ∈ TB := zTB 342 (by decide +kernel) (by decide +kernel)
theorem wd_369 : (Jvm.Cond.castable "java/lang/UnsupportedOperationException" "java/lang/UnsupportedOperationException") ∈ TN := zTN 369 (by decide +kernel) (by decide +kernel)
theorem wd_452 : (Jvm.Cond.methodLink "FoxBurrowsLaw" (15 : Nat) ({ cls := "FoxBurrows", name := "tread", desc := "(II)I" } : Jvm.MethodName)) ∈ TB := zTB 452 (by decide +kernel) (by decide +kernel)
theorem wd_453 : (Jvm.Cond.instanceMethod ({ cls := "FoxBurrows", name := "tread", desc := "(II)I" } : Jvm.MethodName)) ∈ TB := zTB 453 (by decide +kernel) (by decide +kernel)
theorem wd_454 : (Jvm.Cond.selects "FoxBurrows" ({ cls := "FoxBurrows", name := "tread", desc := "(II)I" } : Jvm.MethodName) ({ cls := "FoxBurrows", name := "tread", desc := "(II)I" } : Jvm.MethodName)) ∈ TB := zTB 454 (by decide +kernel) (by decide +kernel)
theorem wd_455 : (Jvm.Cond.code ({ cls := "FoxBurrows", name := "tread", desc := "(II)I" } : Jvm.MethodName) prog_1_method_3_code (3 : Nat) (Option.some Jvm.ClassFile.FieldType.int)) ∈ TB := zTB 455 (by decide +kernel) (by decide +kernel)
theorem wd_492 : (Jvm.Cond.methodLink "FoxBurrowsLaw" (19 : Nat) ({ cls := "FoxBurrows", name := "grow", desc := "(II)I" } : Jvm.MethodName)) ∈ TB := zTB 492 (by decide +kernel) (by decide +kernel)
theorem wd_493 : (Jvm.Cond.instanceMethod ({ cls := "FoxBurrows", name := "grow", desc := "(II)I" } : Jvm.MethodName)) ∈ TB := zTB 493 (by decide +kernel) (by decide +kernel)
theorem wd_494 : (Jvm.Cond.selects "FoxBurrows" ({ cls := "FoxBurrows", name := "grow", desc := "(II)I" } : Jvm.MethodName) ({ cls := "FoxBurrows", name := "grow", desc := "(II)I" } : Jvm.MethodName)) ∈ TB := zTB 494 (by decide +kernel) (by decide +kernel)
theorem wd_495 : (Jvm.Cond.code ({ cls := "FoxBurrows", name := "grow", desc := "(II)I" } : Jvm.MethodName) prog_1_method_4_code (3 : Nat) (Option.some Jvm.ClassFile.FieldType.int)) ∈ TB := zTB 495 (by decide +kernel) (by decide +kernel)
theorem wd_507 : (Jvm.Cond.methodLink "FoxBurrowsLaw" (26 : Nat) ({ cls := "FoxBurrows", name := "flock", desc := "(I)I" } : Jvm.MethodName)) ∈ TB := zTB 507 (by decide +kernel) (by decide +kernel)
theorem wd_508 : (Jvm.Cond.instanceMethod ({ cls := "FoxBurrows", name := "flock", desc := "(I)I" } : Jvm.MethodName)) ∈ TB := zTB 508 (by decide +kernel) (by decide +kernel)
theorem wd_509 : (Jvm.Cond.selects "FoxBurrows" ({ cls := "FoxBurrows", name := "flock", desc := "(I)I" } : Jvm.MethodName) ({ cls := "FoxBurrows", name := "flock", desc := "(I)I" } : Jvm.MethodName)) ∈ TB := zTB 509 (by decide +kernel) (by decide +kernel)
theorem wd_510 : (Jvm.Cond.code ({ cls := "FoxBurrows", name := "flock", desc := "(I)I" } : Jvm.MethodName) prog_1_method_6_code (2 : Nat) (Option.some Jvm.ClassFile.FieldType.int)) ∈ TB := zTB 510 (by decide +kernel) (by decide +kernel)
theorem wd_518 : (Jvm.Cond.classLink "FoxBurrowsLaw" (83 : Nat) "java/lang/IndexOutOfBoundsException") ∈ TB := zTB 518 (by decide +kernel) (by decide +kernel)
theorem wd_542 : (Jvm.Cond.classLink "FoxBurrowsLaw" (51 : Nat) "java/lang/IllegalArgumentException") ∈ TB := zTB 542 (by decide +kernel) (by decide +kernel)
theorem wd_543 : (Jvm.Cond.methodLink "FoxBurrowsLaw" (88 : Nat) ({ cls := "FoxBurrows", name := "burrowOf", desc := "(II)I" } : Jvm.MethodName)) ∈ TB := zTB 543 (by decide +kernel) (by decide +kernel)
theorem wd_544 : (Jvm.Cond.instanceMethod ({ cls := "FoxBurrows", name := "burrowOf", desc := "(II)I" } : Jvm.MethodName)) ∈ TB := zTB 544 (by decide +kernel) (by decide +kernel)
theorem wd_545 : (Jvm.Cond.selects "FoxBurrows" ({ cls := "FoxBurrows", name := "burrowOf", desc := "(II)I" } : Jvm.MethodName) ({ cls := "FoxBurrows", name := "burrowOf", desc := "(II)I" } : Jvm.MethodName)) ∈ TB := zTB 545 (by decide +kernel) (by decide +kernel)
theorem wd_546 : (Jvm.Cond.code ({ cls := "FoxBurrows", name := "burrowOf", desc := "(II)I" } : Jvm.MethodName) prog_1_method_24_code (3 : Nat) (Option.some Jvm.ClassFile.FieldType.int)) ∈ TB := zTB 546 (by decide +kernel) (by decide +kernel)
theorem wd_549 : (Jvm.Cond.castable "java/lang/IndexOutOfBoundsException" "java/lang/IndexOutOfBoundsException") ∈ TN := zTN 549 (by decide +kernel) (by decide +kernel)
theorem wd_562 : (Jvm.Cond.castable "java/lang/IllegalArgumentException" "java/lang/IllegalArgumentException") ∈ TN := zTN 562 (by decide +kernel) (by decide +kernel)
theorem wd_699 : (Jvm.Cond.methodLink "FoxBurrowsLaw" (91 : Nat) ({ cls := "FoxBurrows", name := "pathOf", desc := "(IZ)I" } : Jvm.MethodName)) ∈ TB := zTB 699 (by decide +kernel) (by decide +kernel)
theorem wd_700 : (Jvm.Cond.instanceMethod ({ cls := "FoxBurrows", name := "pathOf", desc := "(IZ)I" } : Jvm.MethodName)) ∈ TB := zTB 700 (by decide +kernel) (by decide +kernel)
theorem wd_701 : (Jvm.Cond.selects "FoxBurrows" ({ cls := "FoxBurrows", name := "pathOf", desc := "(IZ)I" } : Jvm.MethodName) ({ cls := "FoxBurrows", name := "pathOf", desc := "(IZ)I" } : Jvm.MethodName)) ∈ TB := zTB 701 (by decide +kernel) (by decide +kernel)
theorem wd_702 : (Jvm.Cond.code ({ cls := "FoxBurrows", name := "pathOf", desc := "(IZ)I" } : Jvm.MethodName) prog_1_method_25_code (3 : Nat) (Option.some Jvm.ClassFile.FieldType.int)) ∈ TB := zTB 702 (by decide +kernel) (by decide +kernel)
theorem wd_707 : (Jvm.Cond.classLink "FoxBurrowsLaw" (101 : Nat) "java/lang/IllegalStateException") ∈ TB := zTB 707 (by decide +kernel) (by decide +kernel)
theorem wd_708 : (Jvm.Cond.methodLink "FoxBurrowsLaw" (97 : Nat) ({ cls := "FoxBurrows", name := "append", desc := "(C)I" } : Jvm.MethodName)) ∈ TB := zTB 708 (by decide +kernel) (by decide +kernel)
theorem wd_709 : (Jvm.Cond.instanceMethod ({ cls := "FoxBurrows", name := "append", desc := "(C)I" } : Jvm.MethodName)) ∈ TB := zTB 709 (by decide +kernel) (by decide +kernel)
theorem wd_710 : (Jvm.Cond.selects "FoxBurrows" ({ cls := "FoxBurrows", name := "append", desc := "(C)I" } : Jvm.MethodName) ({ cls := "FoxBurrows", name := "append", desc := "(C)I" } : Jvm.MethodName)) ∈ TB := zTB 710 (by decide +kernel) (by decide +kernel)
theorem wd_711 : (Jvm.Cond.code ({ cls := "FoxBurrows", name := "append", desc := "(C)I" } : Jvm.MethodName) prog_1_method_29_code (2 : Nat) (Option.some Jvm.ClassFile.FieldType.int)) ∈ TB := zTB 711 (by decide +kernel) (by decide +kernel)
theorem wd_714 : (Jvm.Cond.castable "java/lang/IllegalStateException" "java/lang/IllegalStateException") ∈ TN := zTN 714 (by decide +kernel) (by decide +kernel)
theorem wd_735 : (Jvm.Cond.methodLink "FoxBurrowsLaw" (103 : Nat) ({ cls := "FoxBurrows", name := "commands", desc := "()I" } : Jvm.MethodName)) ∈ TB := zTB 735 (by decide +kernel) (by decide +kernel)
theorem wd_736 : (Jvm.Cond.instanceMethod ({ cls := "FoxBurrows", name := "commands", desc := "()I" } : Jvm.MethodName)) ∈ TB := zTB 736 (by decide +kernel) (by decide +kernel)
theorem wd_737 : (Jvm.Cond.selects "FoxBurrows" ({ cls := "FoxBurrows", name := "commands", desc := "()I" } : Jvm.MethodName) ({ cls := "FoxBurrows", name := "commands", desc := "()I" } : Jvm.MethodName)) ∈ TB := zTB 737 (by decide +kernel) (by decide +kernel)
theorem wd_738 : (Jvm.Cond.code ({ cls := "FoxBurrows", name := "commands", desc := "()I" } : Jvm.MethodName) prog_1_method_30_code (3 : Nat) (Option.some Jvm.ClassFile.FieldType.int)) ∈ TB := zTB 738 (by decide +kernel) (by decide +kernel)
theorem wd_826 : (Jvm.Cond.methodLink "FoxBurrowsLaw" (126 : Nat) ({ cls := "FoxBurrows", name := "account", desc := "(I)I" } : Jvm.MethodName)) ∈ TB := zTB 826 (by decide +kernel) (by decide +kernel)
theorem wd_827 : (Jvm.Cond.instanceMethod ({ cls := "FoxBurrows", name := "account", desc := "(I)I" } : Jvm.MethodName)) ∈ TB := zTB 827 (by decide +kernel) (by decide +kernel)
theorem wd_828 : (Jvm.Cond.selects "FoxBurrows" ({ cls := "FoxBurrows", name := "account", desc := "(I)I" } : Jvm.MethodName) ({ cls := "FoxBurrows", name := "account", desc := "(I)I" } : Jvm.MethodName)) ∈ TB := zTB 828 (by decide +kernel) (by decide +kernel)
theorem wd_829 : (Jvm.Cond.code ({ cls := "FoxBurrows", name := "account", desc := "(I)I" } : Jvm.MethodName) prog_1_method_28_code (2 : Nat) (Option.some Jvm.ClassFile.FieldType.int)) ∈ TB := zTB 829 (by decide +kernel) (by decide +kernel)
theorem wd_846 : (Jvm.Cond.methodLink "FoxBurrowsLaw" (129 : Nat) ({ cls := "FoxBurrows", name := "undo", desc := "()I" } : Jvm.MethodName)) ∈ TB := zTB 846 (by decide +kernel) (by decide +kernel)
theorem wd_847 : (Jvm.Cond.instanceMethod ({ cls := "FoxBurrows", name := "undo", desc := "()I" } : Jvm.MethodName)) ∈ TB := zTB 847 (by decide +kernel) (by decide +kernel)
theorem wd_848 : (Jvm.Cond.selects "FoxBurrows" ({ cls := "FoxBurrows", name := "undo", desc := "()I" } : Jvm.MethodName) ({ cls := "FoxBurrows", name := "undo", desc := "()I" } : Jvm.MethodName)) ∈ TB := zTB 848 (by decide +kernel) (by decide +kernel)
theorem wd_849 : (Jvm.Cond.code ({ cls := "FoxBurrows", name := "undo", desc := "()I" } : Jvm.MethodName) prog_1_method_35_code (1 : Nat) (Option.some Jvm.ClassFile.FieldType.int)) ∈ TB := zTB 849 (by decide +kernel) (by decide +kernel)
theorem wd_858 : (Jvm.Cond.methodLink "FoxBurrowsLaw" (132 : Nat) ({ cls := "FoxBurrows", name := "restore", desc := "()I" } : Jvm.MethodName)) ∈ TB := zTB 858 (by decide +kernel) (by decide +kernel)
theorem wd_859 : (Jvm.Cond.instanceMethod ({ cls := "FoxBurrows", name := "restore", desc := "()I" } : Jvm.MethodName)) ∈ TB := zTB 859 (by decide +kernel) (by decide +kernel)
theorem wd_860 : (Jvm.Cond.selects "FoxBurrows" ({ cls := "FoxBurrows", name := "restore", desc := "()I" } : Jvm.MethodName) ({ cls := "FoxBurrows", name := "restore", desc := "()I" } : Jvm.MethodName)) ∈ TB := zTB 860 (by decide +kernel) (by decide +kernel)
theorem wd_861 : (Jvm.Cond.code ({ cls := "FoxBurrows", name := "restore", desc := "()I" } : Jvm.MethodName) prog_1_method_37_code (1 : Nat) (Option.some Jvm.ClassFile.FieldType.int)) ∈ TB := zTB 861 (by decide +kernel) (by decide +kernel)
theorem wd_869 : (Jvm.Cond.classLink "FoxBurrowsLaw" (46 : Nat) "java/util/NoSuchElementException") ∈ TB := zTB 869 (by decide +kernel) (by decide +kernel)
theorem wd_870 : (Jvm.Cond.methodLink "FoxBurrowsLaw" (106 : Nat) ({ cls := "FoxBurrows", name := "reason", desc := "(I)I" } : Jvm.MethodName)) ∈ TB := zTB 870 (by decide +kernel) (by decide +kernel)
theorem wd_871 : (Jvm.Cond.instanceMethod ({ cls := "FoxBurrows", name := "reason", desc := "(I)I" } : Jvm.MethodName)) ∈ TB := zTB 871 (by decide +kernel) (by decide +kernel)
theorem wd_872 : (Jvm.Cond.selects "FoxBurrows" ({ cls := "FoxBurrows", name := "reason", desc := "(I)I" } : Jvm.MethodName) ({ cls := "FoxBurrows", name := "reason", desc := "(I)I" } : Jvm.MethodName)) ∈ TB := zTB 872 (by decide +kernel) (by decide +kernel)
theorem wd_873 : (Jvm.Cond.code ({ cls := "FoxBurrows", name := "reason", desc := "(I)I" } : Jvm.MethodName) prog_1_method_32_code (2 : Nat) (Option.some Jvm.ClassFile.FieldType.int)) ∈ TB := zTB 873 (by decide +kernel) (by decide +kernel)
theorem wd_877 : (Jvm.Cond.castable "java/util/NoSuchElementException" "java/util/NoSuchElementException") ∈ TN := zTN 877 (by decide +kernel) (by decide +kernel)
theorem wd_900 : (Jvm.Cond.methodLink "FoxBurrowsLaw" (22 : Nat) ({ cls := "FoxBurrows", name := "trap", desc := "(IZ)I" } : Jvm.MethodName)) ∈ TB := zTB 900 (by decide +kernel) (by decide +kernel)
theorem wd_901 : (Jvm.Cond.instanceMethod ({ cls := "FoxBurrows", name := "trap", desc := "(IZ)I" } : Jvm.MethodName)) ∈ TB := zTB 901 (by decide +kernel) (by decide +kernel)
theorem wd_902 : (Jvm.Cond.selects "FoxBurrows" ({ cls := "FoxBurrows", name := "trap", desc := "(IZ)I" } : Jvm.MethodName) ({ cls := "FoxBurrows", name := "trap", desc := "(IZ)I" } : Jvm.MethodName)) ∈ TB := zTB 902 (by decide +kernel) (by decide +kernel)
theorem wd_903 : (Jvm.Cond.code ({ cls := "FoxBurrows", name := "trap", desc := "(IZ)I" } : Jvm.MethodName) prog_1_method_5_code (3 : Nat) (Option.some Jvm.ClassFile.FieldType.int)) ∈ TB := zTB 903 (by decide +kernel) (by decide +kernel)
theorem wd_911 : (Jvm.Cond.classLink "FoxBurrowsLaw" (117 : Nat) "java/lang/ArithmeticException") ∈ TB := zTB 911 (by decide +kernel) (by decide +kernel)
theorem wd_923 : (Jvm.Cond.castable "java/lang/ArithmeticException" "java/lang/ArithmeticException") ∈ TN := zTN 923 (by decide +kernel) (by decide +kernel)
theorem wd_925 : (Jvm.Cond.methodLink "FoxBurrowsLaw" (113 : Nat) ({ cls := "FoxBurrows", name := "meanMoves", desc := "()D" } : Jvm.MethodName)) ∈ TB := zTB 925 (by decide +kernel) (by decide +kernel)
theorem wd_926 : (Jvm.Cond.instanceMethod ({ cls := "FoxBurrows", name := "meanMoves", desc := "()D" } : Jvm.MethodName)) ∈ TB := zTB 926 (by decide +kernel) (by decide +kernel)
theorem wd_927 : (Jvm.Cond.selects "FoxBurrows" ({ cls := "FoxBurrows", name := "meanMoves", desc := "()D" } : Jvm.MethodName) ({ cls := "FoxBurrows", name := "meanMoves", desc := "()D" } : Jvm.MethodName)) ∈ TB := zTB 927 (by decide +kernel) (by decide +kernel)
theorem wd_928 : (Jvm.Cond.code ({ cls := "FoxBurrows", name := "meanMoves", desc := "()D" } : Jvm.MethodName) prog_1_method_26_code (5 : Nat) (Option.some Jvm.ClassFile.FieldType.double)) ∈ TB := zTB 928 (by decide +kernel) (by decide +kernel)
theorem wd_932 : (Jvm.Cond.constantDouble "FoxBurrowsLaw" (119 : Nat) (13875388141788987392 : UInt64)) ∈ TB := zTB 932 (by decide +kernel) (by decide +kernel)
theorem wd_936 : (Jvm.Cond.methodLink "java/lang/Double" (122 : Nat) ({ cls := "java/lang/Double", name := "isNaN", desc := "(D)Z" } : Jvm.MethodName)) ∈ TB := zTB 936 (by decide +kernel) (by decide +kernel)
theorem wd_937 : (Jvm.Cond.static ({ cls := "java/lang/Double", name := "isNaN", desc := "(D)Z" } : Jvm.MethodName)) ∈ TB := zTB 937 (by decide +kernel) (by decide +kernel)
theorem wd_938 : (Jvm.Cond.code ({ cls := "java/lang/Double", name := "isNaN", desc := "(D)Z" } : Jvm.MethodName) prog_21_method_6_code (2 : Nat) (Option.some Jvm.ClassFile.FieldType.boolean)) ∈ TB := zTB 938 (by decide +kernel) (by decide +kernel)
theorem wd_939 : (Jvm.Cond.methodLink "java/lang/Double" (134 : Nat) ({ cls := "java/lang/Double", name := "doubleToRawLongBits", desc := "(D)J" } : Jvm.MethodName)) ∈ TB := zTB 939 (by decide +kernel) (by decide +kernel)
theorem wd_940 : (Jvm.Cond.static ({ cls := "java/lang/Double", name := "doubleToRawLongBits", desc := "(D)J" } : Jvm.MethodName)) ∈ TB := zTB 940 (by decide +kernel) (by decide +kernel)
theorem wd_941 : (Jvm.Cond.native ({ cls := "java/lang/Double", name := "doubleToRawLongBits", desc := "(D)J" } : Jvm.MethodName)) ∈ TB := zTB 941 (by decide +kernel) (by decide +kernel)
theorem wd_942 : (Jvm.Cond.constantLong "java/lang/Double" (137 : Nat) (9221120237041090560 : Int64)) ∈ TB := zTB 942 (by decide +kernel) (by decide +kernel)
theorem wd_946 : (Jvm.Cond.methodLink "FoxBurrowsLaw" (121 : Nat) ({ cls := "FoxBurrows", name := "drawn", desc := "()F" } : Jvm.MethodName)) ∈ TB := zTB 946 (by decide +kernel) (by decide +kernel)
theorem wd_947 : (Jvm.Cond.instanceMethod ({ cls := "FoxBurrows", name := "drawn", desc := "()F" } : Jvm.MethodName)) ∈ TB := zTB 947 (by decide +kernel) (by decide +kernel)
theorem wd_948 : (Jvm.Cond.selects "FoxBurrows" ({ cls := "FoxBurrows", name := "drawn", desc := "()F" } : Jvm.MethodName) ({ cls := "FoxBurrows", name := "drawn", desc := "()F" } : Jvm.MethodName)) ∈ TB := zTB 948 (by decide +kernel) (by decide +kernel)
theorem wd_949 : (Jvm.Cond.code ({ cls := "FoxBurrows", name := "drawn", desc := "()F" } : Jvm.MethodName) prog_1_method_27_code (1 : Nat) (Option.some Jvm.ClassFile.FieldType.float)) ∈ TB := zTB 949 (by decide +kernel) (by decide +kernel)
theorem wd_951 : (Jvm.Cond.constantFloat "FoxBurrowsLaw" (125 : Nat) (3296346112 : UInt32)) ∈ TB := zTB 951 (by decide +kernel) (by decide +kernel)
theorem wd_955 : (Jvm.Cond.methodLink "java/lang/Float" (59 : Nat) ({ cls := "java/lang/Float", name := "isNaN", desc := "(F)Z" } : Jvm.MethodName)) ∈ TB := zTB 955 (by decide +kernel) (by decide +kernel)
theorem wd_956 : (Jvm.Cond.static ({ cls := "java/lang/Float", name := "isNaN", desc := "(F)Z" } : Jvm.MethodName)) ∈ TB := zTB 956 (by decide +kernel) (by decide +kernel)
theorem wd_957 : (Jvm.Cond.code ({ cls := "java/lang/Float", name := "isNaN", desc := "(F)Z" } : Jvm.MethodName) prog_23_method_6_code (1 : Nat) (Option.some Jvm.ClassFile.FieldType.boolean)) ∈ TB := zTB 957 (by decide +kernel) (by decide +kernel)
theorem wd_958 : (Jvm.Cond.methodLink "java/lang/Float" (74 : Nat) ({ cls := "java/lang/Float", name := "floatToRawIntBits", desc := "(F)I" } : Jvm.MethodName)) ∈ TB := zTB 958 (by decide +kernel) (by decide +kernel)
theorem wd_959 : (Jvm.Cond.static ({ cls := "java/lang/Float", name := "floatToRawIntBits", desc := "(F)I" } : Jvm.MethodName)) ∈ TB := zTB 959 (by decide +kernel) (by decide +kernel)
theorem wd_960 : (Jvm.Cond.native ({ cls := "java/lang/Float", name := "floatToRawIntBits", desc := "(F)I" } : Jvm.MethodName)) ∈ TB := zTB 960 (by decide +kernel) (by decide +kernel)
theorem wd_961 : (Jvm.Cond.constant "java/lang/Float" (77 : Nat) (2143289344 : Int32)) ∈ TB := zTB 961 (by decide +kernel) (by decide +kernel)
theorem wd_965 : (Jvm.Cond.methodLink "FoxBurrowsLaw" (70 : Nat) ({ cls := "FoxBurrows", name := "count", desc := "(IZ)I" } : Jvm.MethodName)) ∈ TB := zTB 965 (by decide +kernel) (by decide +kernel)
theorem wd_966 : (Jvm.Cond.instanceMethod ({ cls := "FoxBurrows", name := "count", desc := "(IZ)I" } : Jvm.MethodName)) ∈ TB := zTB 966 (by decide +kernel) (by decide +kernel)
theorem wd_967 : (Jvm.Cond.selects "FoxBurrows" ({ cls := "FoxBurrows", name := "count", desc := "(IZ)I" } : Jvm.MethodName) ({ cls := "FoxBurrows", name := "count", desc := "(IZ)I" } : Jvm.MethodName)) ∈ TB := zTB 967 (by decide +kernel) (by decide +kernel)
theorem wd_968 : (Jvm.Cond.code ({ cls := "FoxBurrows", name := "count", desc := "(IZ)I" } : Jvm.MethodName) prog_1_method_19_code (7 : Nat) (Option.some Jvm.ClassFile.FieldType.int)) ∈ TB := zTB 968 (by decide +kernel) (by decide +kernel)
theorem wd_974 : (Jvm.Cond.methodLink "FoxBurrowsLaw" (48 : Nat) ({ cls := "FoxBurrows", name := "positionOf", desc := "(II)I" } : Jvm.MethodName)) ∈ TB := zTB 974 (by decide +kernel) (by decide +kernel)
theorem wd_975 : (Jvm.Cond.instanceMethod ({ cls := "FoxBurrows", name := "positionOf", desc := "(II)I" } : Jvm.MethodName)) ∈ TB := zTB 975 (by decide +kernel) (by decide +kernel)
theorem wd_976 : (Jvm.Cond.selects "FoxBurrows" ({ cls := "FoxBurrows", name := "positionOf", desc := "(II)I" } : Jvm.MethodName) ({ cls := "FoxBurrows", name := "positionOf", desc := "(II)I" } : Jvm.MethodName)) ∈ TB := zTB 976 (by decide +kernel) (by decide +kernel)
theorem wd_977 : (Jvm.Cond.code ({ cls := "FoxBurrows", name := "positionOf", desc := "(II)I" } : Jvm.MethodName) prog_1_method_13_code (3 : Nat) (Option.some Jvm.ClassFile.FieldType.int)) ∈ TB := zTB 977 (by decide +kernel) (by decide +kernel)
theorem wd_987 : (Jvm.Cond.methodLink "FoxBurrowsLaw" (53 : Nat) ({ cls := "FoxBurrows", name := "outcomeAgain", desc := "(I)I" } : Jvm.MethodName)) ∈ TB := zTB 987 (by decide +kernel) (by decide +kernel)
theorem wd_988 : (Jvm.Cond.instanceMethod ({ cls := "FoxBurrows", name := "outcomeAgain", desc := "(I)I" } : Jvm.MethodName)) ∈ TB := zTB 988 (by decide +kernel) (by decide +kernel)
theorem wd_989 : (Jvm.Cond.selects "FoxBurrows" ({ cls := "FoxBurrows", name := "outcomeAgain", desc := "(I)I" } : Jvm.MethodName) ({ cls := "FoxBurrows", name := "outcomeAgain", desc := "(I)I" } : Jvm.MethodName)) ∈ TB := zTB 989 (by decide +kernel) (by decide +kernel)
theorem wd_990 : (Jvm.Cond.code ({ cls := "FoxBurrows", name := "outcomeAgain", desc := "(I)I" } : Jvm.MethodName) prog_1_method_14_code (2 : Nat) (Option.some Jvm.ClassFile.FieldType.int)) ∈ TB := zTB 990 (by decide +kernel) (by decide +kernel)
theorem wd_1016 : (Jvm.Cond.methodLink "FoxBurrowsLaw" (60 : Nat) ({ cls := "FoxBurrows", name := "best", desc := "(I)I" } : Jvm.MethodName)) ∈ TB := zTB 1016 (by decide +kernel) (by decide +kernel)
theorem wd_1017 : (Jvm.Cond.instanceMethod ({ cls := "FoxBurrows", name := "best", desc := "(I)I" } : Jvm.MethodName)) ∈ TB := zTB 1017 (by decide +kernel) (by decide +kernel)
theorem wd_1018 : (Jvm.Cond.selects "FoxBurrows" ({ cls := "FoxBurrows", name := "best", desc := "(I)I" } : Jvm.MethodName) ({ cls := "FoxBurrows", name := "best", desc := "(I)I" } : Jvm.MethodName)) ∈ TB := zTB 1018 (by decide +kernel) (by decide +kernel)
theorem wd_1019 : (Jvm.Cond.code ({ cls := "FoxBurrows", name := "best", desc := "(I)I" } : Jvm.MethodName) prog_1_method_16_code (3 : Nat) (Option.some Jvm.ClassFile.FieldType.int)) ∈ TB := zTB 1019 (by decide +kernel) (by decide +kernel)
theorem wd_1024 : (Jvm.Cond.methodLink "FoxBurrowsLaw" (67 : Nat) ({ cls := "FoxBurrows", name := "ends", desc := "(I)I" } : Jvm.MethodName)) ∈ TB := zTB 1024 (by decide +kernel) (by decide +kernel)
theorem wd_1025 : (Jvm.Cond.instanceMethod ({ cls := "FoxBurrows", name := "ends", desc := "(I)I" } : Jvm.MethodName)) ∈ TB := zTB 1025 (by decide +kernel) (by decide +kernel)
theorem wd_1026 : (Jvm.Cond.selects "FoxBurrows" ({ cls := "FoxBurrows", name := "ends", desc := "(I)I" } : Jvm.MethodName) ({ cls := "FoxBurrows", name := "ends", desc := "(I)I" } : Jvm.MethodName)) ∈ TB := zTB 1026 (by decide +kernel) (by decide +kernel)
theorem wd_1027 : (Jvm.Cond.code ({ cls := "FoxBurrows", name := "ends", desc := "(I)I" } : Jvm.MethodName) prog_1_method_18_code (6 : Nat) (Option.some Jvm.ClassFile.FieldType.int)) ∈ TB := zTB 1027 (by decide +kernel) (by decide +kernel)
theorem wd_1032 : (Jvm.Cond.methodLink "FoxBurrowsLaw" (85 : Nat) ({ cls := "FoxBurrows", name := "bestBurrow", desc := "(I)I" } : Jvm.MethodName)) ∈ TB := zTB 1032 (by decide +kernel) (by decide +kernel)
theorem wd_1033 : (Jvm.Cond.instanceMethod ({ cls := "FoxBurrows", name := "bestBurrow", desc := "(I)I" } : Jvm.MethodName)) ∈ TB := zTB 1033 (by decide +kernel) (by decide +kernel)
theorem wd_1034 : (Jvm.Cond.selects "FoxBurrows" ({ cls := "FoxBurrows", name := "bestBurrow", desc := "(I)I" } : Jvm.MethodName) ({ cls := "FoxBurrows", name := "bestBurrow", desc := "(I)I" } : Jvm.MethodName)) ∈ TB := zTB 1034 (by decide +kernel) (by decide +kernel)
theorem wd_1035 : (Jvm.Cond.code ({ cls := "FoxBurrows", name := "bestBurrow", desc := "(I)I" } : Jvm.MethodName) prog_1_method_23_code (6 : Nat) (Option.some Jvm.ClassFile.FieldType.int)) ∈ TB := zTB 1035 (by decide +kernel) (by decide +kernel)
theorem wd_1040 : (Jvm.Cond.methodLink "FoxBurrowsLaw" (56 : Nat) ({ cls := "FoxBurrows", name := "moveOf", desc := "(IIZ)I" } : Jvm.MethodName)) ∈ TB := zTB 1040 (by decide +kernel) (by decide +kernel)
theorem wd_1041 : (Jvm.Cond.instanceMethod ({ cls := "FoxBurrows", name := "moveOf", desc := "(IIZ)I" } : Jvm.MethodName)) ∈ TB := zTB 1041 (by decide +kernel) (by decide +kernel)
theorem wd_1042 : (Jvm.Cond.selects "FoxBurrows" ({ cls := "FoxBurrows", name := "moveOf", desc := "(IIZ)I" } : Jvm.MethodName) ({ cls := "FoxBurrows", name := "moveOf", desc := "(IIZ)I" } : Jvm.MethodName)) ∈ TB := zTB 1042 (by decide +kernel) (by decide +kernel)
theorem wd_1043 : (Jvm.Cond.code ({ cls := "FoxBurrows", name := "moveOf", desc := "(IIZ)I" } : Jvm.MethodName) prog_1_method_15_code (7 : Nat) (Option.some Jvm.ClassFile.FieldType.int)) ∈ TB := zTB 1043 (by decide +kernel) (by decide +kernel)
theorem wd_1050 : (Jvm.Cond.methodLink "FoxBurrowsLaw" (77 : Nat) ({ cls := "FoxBurrows", name := "wonIn", desc := "(I)I" } : Jvm.MethodName)) ∈ TB := zTB 1050 (by decide +kernel) (by decide +kernel)
theorem wd_1051 : (Jvm.Cond.instanceMethod ({ cls := "FoxBurrows", name := "wonIn", desc := "(I)I" } : Jvm.MethodName)) ∈ TB := zTB 1051 (by decide +kernel) (by decide +kernel)
theorem wd_1052 : (Jvm.Cond.selects "FoxBurrows" ({ cls := "FoxBurrows", name := "wonIn", desc := "(I)I" } : Jvm.MethodName) ({ cls := "FoxBurrows", name := "wonIn", desc := "(I)I" } : Jvm.MethodName)) ∈ TB := zTB 1052 (by decide +kernel) (by decide +kernel)
theorem wd_1053 : (Jvm.Cond.code ({ cls := "FoxBurrows", name := "wonIn", desc := "(I)I" } : Jvm.MethodName) prog_1_method_21_code (2 : Nat) (Option.some Jvm.ClassFile.FieldType.int)) ∈ TB := zTB 1053 (by decide +kernel) (by decide +kernel)
theorem wd_1062 : (Jvm.Cond.methodLink "FoxBurrowsLaw" (109 : Nat) ({ cls := "FoxBurrows", name := "character", desc := "(I)C" } : Jvm.MethodName)) ∈ TB := zTB 1062 (by decide +kernel) (by decide +kernel)
theorem wd_1063 : (Jvm.Cond.instanceMethod ({ cls := "FoxBurrows", name := "character", desc := "(I)C" } : Jvm.MethodName)) ∈ TB := zTB 1063 (by decide +kernel) (by decide +kernel)
theorem wd_1064 : (Jvm.Cond.selects "FoxBurrows" ({ cls := "FoxBurrows", name := "character", desc := "(I)C" } : Jvm.MethodName) ({ cls := "FoxBurrows", name := "character", desc := "(I)C" } : Jvm.MethodName)) ∈ TB := zTB 1064 (by decide +kernel) (by decide +kernel)
theorem wd_1065 : (Jvm.Cond.code ({ cls := "FoxBurrows", name := "character", desc := "(I)C" } : Jvm.MethodName) prog_1_method_34_code (2 : Nat) (Option.some Jvm.ClassFile.FieldType.char)) ∈ TB := zTB 1065 (by decide +kernel) (by decide +kernel)
theorem wd_1071 : (Jvm.Cond.methodLink "FoxBurrowsLaw" (73 : Nat) ({ cls := "FoxBurrows", name := "longest", desc := "(Z)I" } : Jvm.MethodName)) ∈ TB := zTB 1071 (by decide +kernel) (by decide +kernel)
theorem wd_1072 : (Jvm.Cond.instanceMethod ({ cls := "FoxBurrows", name := "longest", desc := "(Z)I" } : Jvm.MethodName)) ∈ TB := zTB 1072 (by decide +kernel) (by decide +kernel)
theorem wd_1073 : (Jvm.Cond.selects "FoxBurrows" ({ cls := "FoxBurrows", name := "longest", desc := "(Z)I" } : Jvm.MethodName) ({ cls := "FoxBurrows", name := "longest", desc := "(Z)I" } : Jvm.MethodName)) ∈ TB := zTB 1073 (by decide +kernel) (by decide +kernel)
theorem wd_1074 : (Jvm.Cond.code ({ cls := "FoxBurrows", name := "longest", desc := "(Z)I" } : Jvm.MethodName) prog_1_method_20_code (8 : Nat) (Option.some Jvm.ClassFile.FieldType.int)) ∈ TB := zTB 1074 (by decide +kernel) (by decide +kernel)
theorem wd_1079 : (Jvm.Cond.methodLink "FoxBurrowsLaw" (80 : Nat) ({ cls := "FoxBurrows", name := "wouldChange", desc := "(II)I" } : Jvm.MethodName)) ∈ TB := zTB 1079 (by decide +kernel) (by decide +kernel)
theorem wd_1080 : (Jvm.Cond.instanceMethod ({ cls := "FoxBurrows", name := "wouldChange", desc := "(II)I" } : Jvm.MethodName)) ∈ TB := zTB 1080 (by decide +kernel) (by decide +kernel)
theorem wd_1081 : (Jvm.Cond.selects "FoxBurrows" ({ cls := "FoxBurrows", name := "wouldChange", desc := "(II)I" } : Jvm.MethodName) ({ cls := "FoxBurrows", name := "wouldChange", desc := "(II)I" } : Jvm.MethodName)) ∈ TB := zTB 1081 (by decide +kernel) (by decide +kernel)
theorem wd_1082 : (Jvm.Cond.code ({ cls := "FoxBurrows", name := "wouldChange", desc := "(II)I" } : Jvm.MethodName) prog_1_method_22_code (6 : Nat) (Option.some Jvm.ClassFile.FieldType.int)) ∈ TB := zTB 1082 (by decide +kernel) (by decide +kernel)
theorem wd_1089 : (Jvm.Cond.methodLink "FoxBurrowsLaw" (94 : Nat) ({ cls := "FoxBurrows", name := "now", desc := "()I" } : Jvm.MethodName)) ∈ TB := zTB 1089 (by decide +kernel) (by decide +kernel)
theorem wd_1090 : (Jvm.Cond.instanceMethod ({ cls := "FoxBurrows", name := "now", desc := "()I" } : Jvm.MethodName)) ∈ TB := zTB 1090 (by decide +kernel) (by decide +kernel)
theorem wd_1091 : (Jvm.Cond.selects "FoxBurrows" ({ cls := "FoxBurrows", name := "now", desc := "()I" } : Jvm.MethodName) ({ cls := "FoxBurrows", name := "now", desc := "()I" } : Jvm.MethodName)) ∈ TB := zTB 1091 (by decide +kernel) (by decide +kernel)
theorem wd_1092 : (Jvm.Cond.code ({ cls := "FoxBurrows", name := "now", desc := "()I" } : Jvm.MethodName) prog_1_method_11_code (1 : Nat) (Option.some Jvm.ClassFile.FieldType.int)) ∈ TB := zTB 1092 (by decide +kernel) (by decide +kernel)
theorem wd_1100 : (Jvm.Cond.methodLink "FoxBurrowsLaw" (30 : Nat) ({ cls := "FoxBurrows", name := "begin", desc := "(I)I" } : Jvm.MethodName)) ∈ TB := zTB 1100 (by decide +kernel) (by decide +kernel)
theorem wd_1101 : (Jvm.Cond.instanceMethod ({ cls := "FoxBurrows", name := "begin", desc := "(I)I" } : Jvm.MethodName)) ∈ TB := zTB 1101 (by decide +kernel) (by decide +kernel)
theorem wd_1102 : (Jvm.Cond.selects "FoxBurrows" ({ cls := "FoxBurrows", name := "begin", desc := "(I)I" } : Jvm.MethodName) ({ cls := "FoxBurrows", name := "begin", desc := "(I)I" } : Jvm.MethodName)) ∈ TB := zTB 1102 (by decide +kernel) (by decide +kernel)
theorem wd_1103 : (Jvm.Cond.code ({ cls := "FoxBurrows", name := "begin", desc := "(I)I" } : Jvm.MethodName) prog_1_method_7_code (2 : Nat) (Option.some Jvm.ClassFile.FieldType.int)) ∈ TB := zTB 1103 (by decide +kernel) (by decide +kernel)
theorem wd_1107 : (Jvm.Cond.methodLink "FoxBurrowsLaw" (36 : Nat) ({ cls := "FoxBurrows", name := "play", desc := "(I)I" } : Jvm.MethodName)) ∈ TB := zTB 1107 (by decide +kernel) (by decide +kernel)
theorem wd_1108 : (Jvm.Cond.instanceMethod ({ cls := "FoxBurrows", name := "play", desc := "(I)I" } : Jvm.MethodName)) ∈ TB := zTB 1108 (by decide +kernel) (by decide +kernel)
theorem wd_1109 : (Jvm.Cond.selects "FoxBurrows" ({ cls := "FoxBurrows", name := "play", desc := "(I)I" } : Jvm.MethodName) ({ cls := "FoxBurrows", name := "play", desc := "(I)I" } : Jvm.MethodName)) ∈ TB := zTB 1109 (by decide +kernel) (by decide +kernel)
theorem wd_1110 : (Jvm.Cond.code ({ cls := "FoxBurrows", name := "play", desc := "(I)I" } : Jvm.MethodName) prog_1_method_9_code (2 : Nat) (Option.some Jvm.ClassFile.FieldType.int)) ∈ TB := zTB 1110 (by decide +kernel) (by decide +kernel)
theorem wd_1114 : (Jvm.Cond.methodLink "FoxBurrowsLaw" (39 : Nat) ({ cls := "FoxBurrows", name := "back", desc := "()I" } : Jvm.MethodName)) ∈ TB := zTB 1114 (by decide +kernel) (by decide +kernel)
theorem wd_1115 : (Jvm.Cond.instanceMethod ({ cls := "FoxBurrows", name := "back", desc := "()I" } : Jvm.MethodName)) ∈ TB := zTB 1115 (by decide +kernel) (by decide +kernel)
theorem wd_1116 : (Jvm.Cond.selects "FoxBurrows" ({ cls := "FoxBurrows", name := "back", desc := "()I" } : Jvm.MethodName) ({ cls := "FoxBurrows", name := "back", desc := "()I" } : Jvm.MethodName)) ∈ TB := zTB 1116 (by decide +kernel) (by decide +kernel)
theorem wd_1117 : (Jvm.Cond.code ({ cls := "FoxBurrows", name := "back", desc := "()I" } : Jvm.MethodName) prog_1_method_10_code (1 : Nat) (Option.some Jvm.ClassFile.FieldType.int)) ∈ TB := zTB 1117 (by decide +kernel) (by decide +kernel)
theorem wd_1386 : (Jvm.Cond.methodLink "FoxBurrowsLaw" (33 : Nat) ({ cls := "FoxBurrows", name := "move", desc := "(II)I" } : Jvm.MethodName)) ∈ TB := zTB 1386 (by decide +kernel) (by decide +kernel)
theorem wd_1387 : (Jvm.Cond.instanceMethod ({ cls := "FoxBurrows", name := "move", desc := "(II)I" } : Jvm.MethodName)) ∈ TB := zTB 1387 (by decide +kernel) (by decide +kernel)
theorem wd_1388 : (Jvm.Cond.selects "FoxBurrows" ({ cls := "FoxBurrows", name := "move", desc := "(II)I" } : Jvm.MethodName) ({ cls := "FoxBurrows", name := "move", desc := "(II)I" } : Jvm.MethodName)) ∈ TB := zTB 1388 (by decide +kernel) (by decide +kernel)
theorem wd_1389 : (Jvm.Cond.code ({ cls := "FoxBurrows", name := "move", desc := "(II)I" } : Jvm.MethodName) prog_1_method_8_code (3 : Nat) (Option.some Jvm.ClassFile.FieldType.int)) ∈ TB := zTB 1389 (by decide +kernel) (by decide +kernel)
theorem wd_1396 : (Jvm.Cond.methodLink "FoxBurrowsLaw" (42 : Nat) ({ cls := "FoxBurrows", name := "position", desc := "(IIIZ)I" } : Jvm.MethodName)) ∈ TB := zTB 1396 (by decide +kernel) (by decide +kernel)
theorem wd_1397 : (Jvm.Cond.instanceMethod ({ cls := "FoxBurrows", name := "position", desc := "(IIIZ)I" } : Jvm.MethodName)) ∈ TB := zTB 1397 (by decide +kernel) (by decide +kernel)
theorem wd_1398 : (Jvm.Cond.selects "FoxBurrows" ({ cls := "FoxBurrows", name := "position", desc := "(IIIZ)I" } : Jvm.MethodName) ({ cls := "FoxBurrows", name := "position", desc := "(IIIZ)I" } : Jvm.MethodName)) ∈ TB := zTB 1398 (by decide +kernel) (by decide +kernel)
theorem wd_1399 : (Jvm.Cond.code ({ cls := "FoxBurrows", name := "position", desc := "(IIIZ)I" } : Jvm.MethodName) prog_1_method_12_code (5 : Nat) (Option.some Jvm.ClassFile.FieldType.int)) ∈ TB := zTB 1399 (by decide +kernel) (by decide +kernel)
theorem wd_1404 : (Jvm.Cond.methodLink "FoxBurrowsLaw" (63 : Nat) ({ cls := "FoxBurrows", name := "after", desc := "(III)I" } : Jvm.MethodName)) ∈ TB := zTB 1404 (by decide +kernel) (by decide +kernel)
theorem wd_1405 : (Jvm.Cond.instanceMethod ({ cls := "FoxBurrows", name := "after", desc := "(III)I" } : Jvm.MethodName)) ∈ TB := zTB 1405 (by decide +kernel) (by decide +kernel)
theorem wd_1406 : (Jvm.Cond.selects "FoxBurrows" ({ cls := "FoxBurrows", name := "after", desc := "(III)I" } : Jvm.MethodName) ({ cls := "FoxBurrows", name := "after", desc := "(III)I" } : Jvm.MethodName)) ∈ TB := zTB 1406 (by decide +kernel) (by decide +kernel)
theorem wd_1407 : (Jvm.Cond.code ({ cls := "FoxBurrows", name := "after", desc := "(III)I" } : Jvm.MethodName) prog_1_method_17_code (4 : Nat) (Option.some Jvm.ClassFile.FieldType.int)) ∈ TB := zTB 1407 (by decide +kernel) (by decide +kernel)
theorem hz_Jxe99ae_isNaN_b9ae7 : (yJxe99ae_isNaN_b9ae7.cls ≠ "java/lang/invoke/MethodHandle" ∧ yJxe99ae_isNaN_b9ae7.cls ≠ "java/lang/invoke/VarHandle" ∧ (parseMethodDescriptor yJxe99ae_isNaN_b9ae7.desc).map (fun d => d.parameters.length) = some 1) := ⟨by decide +kernel, by decide +kernel, by decide +kernel⟩
theorem hy_Jxe99ae_isNaN_b9ae7 : yJxe99ae_isNaN_b9ae7.cls = RJxe99ae ∧ (yJxe99ae_isNaN_b9ae7.cls ≠ "java/lang/invoke/MethodHandle" ∧ yJxe99ae_isNaN_b9ae7.cls ≠ "java/lang/invoke/VarHandle" ∧ (parseMethodDescriptor yJxe99ae_isNaN_b9ae7.desc).map (fun d => d.parameters.length) = some 1) := ⟨rfl, hz_Jxe99ae_isNaN_b9ae7⟩
theorem hz_Jxf58ca_isNaN_12338 : (yJxf58ca_isNaN_12338.cls ≠ "java/lang/invoke/MethodHandle" ∧ yJxf58ca_isNaN_12338.cls ≠ "java/lang/invoke/VarHandle" ∧ (parseMethodDescriptor yJxf58ca_isNaN_12338.desc).map (fun d => d.parameters.length) = some 1) := ⟨by decide +kernel, by decide +kernel, by decide +kernel⟩
theorem hy_Jxf58ca_isNaN_12338 : yJxf58ca_isNaN_12338.cls = RJxf58ca ∧ (yJxf58ca_isNaN_12338.cls ≠ "java/lang/invoke/MethodHandle" ∧ yJxf58ca_isNaN_12338.cls ≠ "java/lang/invoke/VarHandle" ∧ (parseMethodDescriptor yJxf58ca_isNaN_12338.desc).map (fun d => d.parameters.length) = some 1) := ⟨rfl, hz_Jxf58ca_isNaN_12338⟩
theorem hz_X9_account : (yX9_account.cls ≠ "java/lang/invoke/MethodHandle" ∧ yX9_account.cls ≠ "java/lang/invoke/VarHandle" ∧ (parseMethodDescriptor yX9_account.desc).map (fun d => d.parameters.length) = some 1) := ⟨by decide +kernel, by decide +kernel, by decide +kernel⟩
theorem hy_X9_account : yX9_account.cls = RX9 ∧ (yX9_account.cls ≠ "java/lang/invoke/MethodHandle" ∧ yX9_account.cls ≠ "java/lang/invoke/VarHandle" ∧ (parseMethodDescriptor yX9_account.desc).map (fun d => d.parameters.length) = some 1) := ⟨rfl, hz_X9_account⟩
theorem hz_X9_after : (yX9_after.cls ≠ "java/lang/invoke/MethodHandle" ∧ yX9_after.cls ≠ "java/lang/invoke/VarHandle" ∧ (parseMethodDescriptor yX9_after.desc).map (fun d => d.parameters.length) = some 3) := ⟨by decide +kernel, by decide +kernel, by decide +kernel⟩
theorem hy_X9_after : yX9_after.cls = RX9 ∧ (yX9_after.cls ≠ "java/lang/invoke/MethodHandle" ∧ yX9_after.cls ≠ "java/lang/invoke/VarHandle" ∧ (parseMethodDescriptor yX9_after.desc).map (fun d => d.parameters.length) = some 3) := ⟨rfl, hz_X9_after⟩
theorem hz_X9_append : (yX9_append.cls ≠ "java/lang/invoke/MethodHandle" ∧ yX9_append.cls ≠ "java/lang/invoke/VarHandle" ∧ (parseMethodDescriptor yX9_append.desc).map (fun d => d.parameters.length) = some 1) := ⟨by decide +kernel, by decide +kernel, by decide +kernel⟩
theorem hy_X9_append : yX9_append.cls = RX9 ∧ (yX9_append.cls ≠ "java/lang/invoke/MethodHandle" ∧ yX9_append.cls ≠ "java/lang/invoke/VarHandle" ∧ (parseMethodDescriptor yX9_append.desc).map (fun d => d.parameters.length) = some 1) := ⟨rfl, hz_X9_append⟩
theorem hz_X9_back : (yX9_back.cls ≠ "java/lang/invoke/MethodHandle" ∧ yX9_back.cls ≠ "java/lang/invoke/VarHandle" ∧ (parseMethodDescriptor yX9_back.desc).map (fun d => d.parameters.length) = some 0) := ⟨by decide +kernel, by decide +kernel, by decide +kernel⟩
theorem hy_X9_back : yX9_back.cls = RX9 ∧ (yX9_back.cls ≠ "java/lang/invoke/MethodHandle" ∧ yX9_back.cls ≠ "java/lang/invoke/VarHandle" ∧ (parseMethodDescriptor yX9_back.desc).map (fun d => d.parameters.length) = some 0) := ⟨rfl, hz_X9_back⟩
theorem hz_X9_begin : (yX9_begin.cls ≠ "java/lang/invoke/MethodHandle" ∧ yX9_begin.cls ≠ "java/lang/invoke/VarHandle" ∧ (parseMethodDescriptor yX9_begin.desc).map (fun d => d.parameters.length) = some 1) := ⟨by decide +kernel, by decide +kernel, by decide +kernel⟩
theorem hy_X9_begin : yX9_begin.cls = RX9 ∧ (yX9_begin.cls ≠ "java/lang/invoke/MethodHandle" ∧ yX9_begin.cls ≠ "java/lang/invoke/VarHandle" ∧ (parseMethodDescriptor yX9_begin.desc).map (fun d => d.parameters.length) = some 1) := ⟨rfl, hz_X9_begin⟩
theorem hz_X9_best : (yX9_best.cls ≠ "java/lang/invoke/MethodHandle" ∧ yX9_best.cls ≠ "java/lang/invoke/VarHandle" ∧ (parseMethodDescriptor yX9_best.desc).map (fun d => d.parameters.length) = some 1) := ⟨by decide +kernel, by decide +kernel, by decide +kernel⟩
theorem hy_X9_best : yX9_best.cls = RX9 ∧ (yX9_best.cls ≠ "java/lang/invoke/MethodHandle" ∧ yX9_best.cls ≠ "java/lang/invoke/VarHandle" ∧ (parseMethodDescriptor yX9_best.desc).map (fun d => d.parameters.length) = some 1) := ⟨rfl, hz_X9_best⟩
theorem hz_X9_bestBurrow : (yX9_bestBurrow.cls ≠ "java/lang/invoke/MethodHandle" ∧ yX9_bestBurrow.cls ≠ "java/lang/invoke/VarHandle" ∧ (parseMethodDescriptor yX9_bestBurrow.desc).map (fun d => d.parameters.length) = some 1) := ⟨by decide +kernel, by decide +kernel, by decide +kernel⟩
theorem hy_X9_bestBurrow : yX9_bestBurrow.cls = RX9 ∧ (yX9_bestBurrow.cls ≠ "java/lang/invoke/MethodHandle" ∧ yX9_bestBurrow.cls ≠ "java/lang/invoke/VarHandle" ∧ (parseMethodDescriptor yX9_bestBurrow.desc).map (fun d => d.parameters.length) = some 1) := ⟨rfl, hz_X9_bestBurrow⟩
theorem hz_X9_burrowOf : (yX9_burrowOf.cls ≠ "java/lang/invoke/MethodHandle" ∧ yX9_burrowOf.cls ≠ "java/lang/invoke/VarHandle" ∧ (parseMethodDescriptor yX9_burrowOf.desc).map (fun d => d.parameters.length) = some 2) := ⟨by decide +kernel, by decide +kernel, by decide +kernel⟩
theorem hy_X9_burrowOf : yX9_burrowOf.cls = RX9 ∧ (yX9_burrowOf.cls ≠ "java/lang/invoke/MethodHandle" ∧ yX9_burrowOf.cls ≠ "java/lang/invoke/VarHandle" ∧ (parseMethodDescriptor yX9_burrowOf.desc).map (fun d => d.parameters.length) = some 2) := ⟨rfl, hz_X9_burrowOf⟩
theorem hz_X9_character : (yX9_character.cls ≠ "java/lang/invoke/MethodHandle" ∧ yX9_character.cls ≠ "java/lang/invoke/VarHandle" ∧ (parseMethodDescriptor yX9_character.desc).map (fun d => d.parameters.length) = some 1) := ⟨by decide +kernel, by decide +kernel, by decide +kernel⟩
theorem hy_X9_character : yX9_character.cls = RX9 ∧ (yX9_character.cls ≠ "java/lang/invoke/MethodHandle" ∧ yX9_character.cls ≠ "java/lang/invoke/VarHandle" ∧ (parseMethodDescriptor yX9_character.desc).map (fun d => d.parameters.length) = some 1) := ⟨rfl, hz_X9_character⟩
theorem hz_X9_commands : (yX9_commands.cls ≠ "java/lang/invoke/MethodHandle" ∧ yX9_commands.cls ≠ "java/lang/invoke/VarHandle" ∧ (parseMethodDescriptor yX9_commands.desc).map (fun d => d.parameters.length) = some 0) := ⟨by decide +kernel, by decide +kernel, by decide +kernel⟩
theorem hy_X9_commands : yX9_commands.cls = RX9 ∧ (yX9_commands.cls ≠ "java/lang/invoke/MethodHandle" ∧ yX9_commands.cls ≠ "java/lang/invoke/VarHandle" ∧ (parseMethodDescriptor yX9_commands.desc).map (fun d => d.parameters.length) = some 0) := ⟨rfl, hz_X9_commands⟩
theorem hz_X9_count : (yX9_count.cls ≠ "java/lang/invoke/MethodHandle" ∧ yX9_count.cls ≠ "java/lang/invoke/VarHandle" ∧ (parseMethodDescriptor yX9_count.desc).map (fun d => d.parameters.length) = some 2) := ⟨by decide +kernel, by decide +kernel, by decide +kernel⟩
theorem hy_X9_count : yX9_count.cls = RX9 ∧ (yX9_count.cls ≠ "java/lang/invoke/MethodHandle" ∧ yX9_count.cls ≠ "java/lang/invoke/VarHandle" ∧ (parseMethodDescriptor yX9_count.desc).map (fun d => d.parameters.length) = some 2) := ⟨rfl, hz_X9_count⟩
theorem hz_X9_dig : (yX9_dig.cls ≠ "java/lang/invoke/MethodHandle" ∧ yX9_dig.cls ≠ "java/lang/invoke/VarHandle" ∧ (parseMethodDescriptor yX9_dig.desc).map (fun d => d.parameters.length) = some 0) := ⟨by decide +kernel, by decide +kernel, by decide +kernel⟩
theorem hy_X9_dig : yX9_dig.cls = RX9 ∧ (yX9_dig.cls ≠ "java/lang/invoke/MethodHandle" ∧ yX9_dig.cls ≠ "java/lang/invoke/VarHandle" ∧ (parseMethodDescriptor yX9_dig.desc).map (fun d => d.parameters.length) = some 0) := ⟨rfl, hz_X9_dig⟩
theorem hz_X9_drawn : (yX9_drawn.cls ≠ "java/lang/invoke/MethodHandle" ∧ yX9_drawn.cls ≠ "java/lang/invoke/VarHandle" ∧ (parseMethodDescriptor yX9_drawn.desc).map (fun d => d.parameters.length) = some 0) := ⟨by decide +kernel, by decide +kernel, by decide +kernel⟩
theorem hy_X9_drawn : yX9_drawn.cls = RX9 ∧ (yX9_drawn.cls ≠ "java/lang/invoke/MethodHandle" ∧ yX9_drawn.cls ≠ "java/lang/invoke/VarHandle" ∧ (parseMethodDescriptor yX9_drawn.desc).map (fun d => d.parameters.length) = some 0) := ⟨rfl, hz_X9_drawn⟩
theorem hz_X9_ends : (yX9_ends.cls ≠ "java/lang/invoke/MethodHandle" ∧ yX9_ends.cls ≠ "java/lang/invoke/VarHandle" ∧ (parseMethodDescriptor yX9_ends.desc).map (fun d => d.parameters.length) = some 1) := ⟨by decide +kernel, by decide +kernel, by decide +kernel⟩
theorem hy_X9_ends : yX9_ends.cls = RX9 ∧ (yX9_ends.cls ≠ "java/lang/invoke/MethodHandle" ∧ yX9_ends.cls ≠ "java/lang/invoke/VarHandle" ∧ (parseMethodDescriptor yX9_ends.desc).map (fun d => d.parameters.length) = some 1) := ⟨rfl, hz_X9_ends⟩
theorem hz_X9_flock : (yX9_flock.cls ≠ "java/lang/invoke/MethodHandle" ∧ yX9_flock.cls ≠ "java/lang/invoke/VarHandle" ∧ (parseMethodDescriptor yX9_flock.desc).map (fun d => d.parameters.length) = some 1) := ⟨by decide +kernel, by decide +kernel, by decide +kernel⟩
theorem hy_X9_flock : yX9_flock.cls = RX9 ∧ (yX9_flock.cls ≠ "java/lang/invoke/MethodHandle" ∧ yX9_flock.cls ≠ "java/lang/invoke/VarHandle" ∧ (parseMethodDescriptor yX9_flock.desc).map (fun d => d.parameters.length) = some 1) := ⟨rfl, hz_X9_flock⟩
theorem hz_X9_grow : (yX9_grow.cls ≠ "java/lang/invoke/MethodHandle" ∧ yX9_grow.cls ≠ "java/lang/invoke/VarHandle" ∧ (parseMethodDescriptor yX9_grow.desc).map (fun d => d.parameters.length) = some 2) := ⟨by decide +kernel, by decide +kernel, by decide +kernel⟩
theorem hy_X9_grow : yX9_grow.cls = RX9 ∧ (yX9_grow.cls ≠ "java/lang/invoke/MethodHandle" ∧ yX9_grow.cls ≠ "java/lang/invoke/VarHandle" ∧ (parseMethodDescriptor yX9_grow.desc).map (fun d => d.parameters.length) = some 2) := ⟨rfl, hz_X9_grow⟩
theorem hz_X9_longest : (yX9_longest.cls ≠ "java/lang/invoke/MethodHandle" ∧ yX9_longest.cls ≠ "java/lang/invoke/VarHandle" ∧ (parseMethodDescriptor yX9_longest.desc).map (fun d => d.parameters.length) = some 1) := ⟨by decide +kernel, by decide +kernel, by decide +kernel⟩
theorem hy_X9_longest : yX9_longest.cls = RX9 ∧ (yX9_longest.cls ≠ "java/lang/invoke/MethodHandle" ∧ yX9_longest.cls ≠ "java/lang/invoke/VarHandle" ∧ (parseMethodDescriptor yX9_longest.desc).map (fun d => d.parameters.length) = some 1) := ⟨rfl, hz_X9_longest⟩
theorem hz_X9_meanMoves : (yX9_meanMoves.cls ≠ "java/lang/invoke/MethodHandle" ∧ yX9_meanMoves.cls ≠ "java/lang/invoke/VarHandle" ∧ (parseMethodDescriptor yX9_meanMoves.desc).map (fun d => d.parameters.length) = some 0) := ⟨by decide +kernel, by decide +kernel, by decide +kernel⟩
theorem hy_X9_meanMoves : yX9_meanMoves.cls = RX9 ∧ (yX9_meanMoves.cls ≠ "java/lang/invoke/MethodHandle" ∧ yX9_meanMoves.cls ≠ "java/lang/invoke/VarHandle" ∧ (parseMethodDescriptor yX9_meanMoves.desc).map (fun d => d.parameters.length) = some 0) := ⟨rfl, hz_X9_meanMoves⟩
theorem hz_X9_move : (yX9_move.cls ≠ "java/lang/invoke/MethodHandle" ∧ yX9_move.cls ≠ "java/lang/invoke/VarHandle" ∧ (parseMethodDescriptor yX9_move.desc).map (fun d => d.parameters.length) = some 2) := ⟨by decide +kernel, by decide +kernel, by decide +kernel⟩
theorem hy_X9_move : yX9_move.cls = RX9 ∧ (yX9_move.cls ≠ "java/lang/invoke/MethodHandle" ∧ yX9_move.cls ≠ "java/lang/invoke/VarHandle" ∧ (parseMethodDescriptor yX9_move.desc).map (fun d => d.parameters.length) = some 2) := ⟨rfl, hz_X9_move⟩
theorem hz_X9_moveOf : (yX9_moveOf.cls ≠ "java/lang/invoke/MethodHandle" ∧ yX9_moveOf.cls ≠ "java/lang/invoke/VarHandle" ∧ (parseMethodDescriptor yX9_moveOf.desc).map (fun d => d.parameters.length) = some 3) := ⟨by decide +kernel, by decide +kernel, by decide +kernel⟩
theorem hy_X9_moveOf : yX9_moveOf.cls = RX9 ∧ (yX9_moveOf.cls ≠ "java/lang/invoke/MethodHandle" ∧ yX9_moveOf.cls ≠ "java/lang/invoke/VarHandle" ∧ (parseMethodDescriptor yX9_moveOf.desc).map (fun d => d.parameters.length) = some 3) := ⟨rfl, hz_X9_moveOf⟩
theorem hz_X9_now : (yX9_now.cls ≠ "java/lang/invoke/MethodHandle" ∧ yX9_now.cls ≠ "java/lang/invoke/VarHandle" ∧ (parseMethodDescriptor yX9_now.desc).map (fun d => d.parameters.length) = some 0) := ⟨by decide +kernel, by decide +kernel, by decide +kernel⟩
theorem hy_X9_now : yX9_now.cls = RX9 ∧ (yX9_now.cls ≠ "java/lang/invoke/MethodHandle" ∧ yX9_now.cls ≠ "java/lang/invoke/VarHandle" ∧ (parseMethodDescriptor yX9_now.desc).map (fun d => d.parameters.length) = some 0) := ⟨rfl, hz_X9_now⟩
theorem hz_X9_outcomeAgain : (yX9_outcomeAgain.cls ≠ "java/lang/invoke/MethodHandle" ∧ yX9_outcomeAgain.cls ≠ "java/lang/invoke/VarHandle" ∧ (parseMethodDescriptor yX9_outcomeAgain.desc).map (fun d => d.parameters.length) = some 1) := ⟨by decide +kernel, by decide +kernel, by decide +kernel⟩
theorem hy_X9_outcomeAgain : yX9_outcomeAgain.cls = RX9 ∧ (yX9_outcomeAgain.cls ≠ "java/lang/invoke/MethodHandle" ∧ yX9_outcomeAgain.cls ≠ "java/lang/invoke/VarHandle" ∧ (parseMethodDescriptor yX9_outcomeAgain.desc).map (fun d => d.parameters.length) = some 1) := ⟨rfl, hz_X9_outcomeAgain⟩
theorem hz_X9_pathOf : (yX9_pathOf.cls ≠ "java/lang/invoke/MethodHandle" ∧ yX9_pathOf.cls ≠ "java/lang/invoke/VarHandle" ∧ (parseMethodDescriptor yX9_pathOf.desc).map (fun d => d.parameters.length) = some 2) := ⟨by decide +kernel, by decide +kernel, by decide +kernel⟩
theorem hy_X9_pathOf : yX9_pathOf.cls = RX9 ∧ (yX9_pathOf.cls ≠ "java/lang/invoke/MethodHandle" ∧ yX9_pathOf.cls ≠ "java/lang/invoke/VarHandle" ∧ (parseMethodDescriptor yX9_pathOf.desc).map (fun d => d.parameters.length) = some 2) := ⟨rfl, hz_X9_pathOf⟩
theorem hz_X9_play : (yX9_play.cls ≠ "java/lang/invoke/MethodHandle" ∧ yX9_play.cls ≠ "java/lang/invoke/VarHandle" ∧ (parseMethodDescriptor yX9_play.desc).map (fun d => d.parameters.length) = some 1) := ⟨by decide +kernel, by decide +kernel, by decide +kernel⟩
theorem hy_X9_play : yX9_play.cls = RX9 ∧ (yX9_play.cls ≠ "java/lang/invoke/MethodHandle" ∧ yX9_play.cls ≠ "java/lang/invoke/VarHandle" ∧ (parseMethodDescriptor yX9_play.desc).map (fun d => d.parameters.length) = some 1) := ⟨rfl, hz_X9_play⟩
theorem hz_X9_position : (yX9_position.cls ≠ "java/lang/invoke/MethodHandle" ∧ yX9_position.cls ≠ "java/lang/invoke/VarHandle" ∧ (parseMethodDescriptor yX9_position.desc).map (fun d => d.parameters.length) = some 4) := ⟨by decide +kernel, by decide +kernel, by decide +kernel⟩
theorem hy_X9_position : yX9_position.cls = RX9 ∧ (yX9_position.cls ≠ "java/lang/invoke/MethodHandle" ∧ yX9_position.cls ≠ "java/lang/invoke/VarHandle" ∧ (parseMethodDescriptor yX9_position.desc).map (fun d => d.parameters.length) = some 4) := ⟨rfl, hz_X9_position⟩
theorem hz_X9_positionOf : (yX9_positionOf.cls ≠ "java/lang/invoke/MethodHandle" ∧ yX9_positionOf.cls ≠ "java/lang/invoke/VarHandle" ∧ (parseMethodDescriptor yX9_positionOf.desc).map (fun d => d.parameters.length) = some 2) := ⟨by decide +kernel, by decide +kernel, by decide +kernel⟩
theorem hy_X9_positionOf : yX9_positionOf.cls = RX9 ∧ (yX9_positionOf.cls ≠ "java/lang/invoke/MethodHandle" ∧ yX9_positionOf.cls ≠ "java/lang/invoke/VarHandle" ∧ (parseMethodDescriptor yX9_positionOf.desc).map (fun d => d.parameters.length) = some 2) := ⟨rfl, hz_X9_positionOf⟩
theorem hz_X9_reason : (yX9_reason.cls ≠ "java/lang/invoke/MethodHandle" ∧ yX9_reason.cls ≠ "java/lang/invoke/VarHandle" ∧ (parseMethodDescriptor yX9_reason.desc).map (fun d => d.parameters.length) = some 1) := ⟨by decide +kernel, by decide +kernel, by decide +kernel⟩
theorem hy_X9_reason : yX9_reason.cls = RX9 ∧ (yX9_reason.cls ≠ "java/lang/invoke/MethodHandle" ∧ yX9_reason.cls ≠ "java/lang/invoke/VarHandle" ∧ (parseMethodDescriptor yX9_reason.desc).map (fun d => d.parameters.length) = some 1) := ⟨rfl, hz_X9_reason⟩
theorem hz_X9_restore : (yX9_restore.cls ≠ "java/lang/invoke/MethodHandle" ∧ yX9_restore.cls ≠ "java/lang/invoke/VarHandle" ∧ (parseMethodDescriptor yX9_restore.desc).map (fun d => d.parameters.length) = some 0) := ⟨by decide +kernel, by decide +kernel, by decide +kernel⟩
theorem hy_X9_restore : yX9_restore.cls = RX9 ∧ (yX9_restore.cls ≠ "java/lang/invoke/MethodHandle" ∧ yX9_restore.cls ≠ "java/lang/invoke/VarHandle" ∧ (parseMethodDescriptor yX9_restore.desc).map (fun d => d.parameters.length) = some 0) := ⟨rfl, hz_X9_restore⟩
theorem hz_X9_trap : (yX9_trap.cls ≠ "java/lang/invoke/MethodHandle" ∧ yX9_trap.cls ≠ "java/lang/invoke/VarHandle" ∧ (parseMethodDescriptor yX9_trap.desc).map (fun d => d.parameters.length) = some 2) := ⟨by decide +kernel, by decide +kernel, by decide +kernel⟩
theorem hy_X9_trap : yX9_trap.cls = RX9 ∧ (yX9_trap.cls ≠ "java/lang/invoke/MethodHandle" ∧ yX9_trap.cls ≠ "java/lang/invoke/VarHandle" ∧ (parseMethodDescriptor yX9_trap.desc).map (fun d => d.parameters.length) = some 2) := ⟨rfl, hz_X9_trap⟩
theorem hz_X9_tread : (yX9_tread.cls ≠ "java/lang/invoke/MethodHandle" ∧ yX9_tread.cls ≠ "java/lang/invoke/VarHandle" ∧ (parseMethodDescriptor yX9_tread.desc).map (fun d => d.parameters.length) = some 2) := ⟨by decide +kernel, by decide +kernel, by decide +kernel⟩
theorem hy_X9_tread : yX9_tread.cls = RX9 ∧ (yX9_tread.cls ≠ "java/lang/invoke/MethodHandle" ∧ yX9_tread.cls ≠ "java/lang/invoke/VarHandle" ∧ (parseMethodDescriptor yX9_tread.desc).map (fun d => d.parameters.length) = some 2) := ⟨rfl, hz_X9_tread⟩
theorem hz_X9_undo : (yX9_undo.cls ≠ "java/lang/invoke/MethodHandle" ∧ yX9_undo.cls ≠ "java/lang/invoke/VarHandle" ∧ (parseMethodDescriptor yX9_undo.desc).map (fun d => d.parameters.length) = some 0) := ⟨by decide +kernel, by decide +kernel, by decide +kernel⟩
theorem hy_X9_undo : yX9_undo.cls = RX9 ∧ (yX9_undo.cls ≠ "java/lang/invoke/MethodHandle" ∧ yX9_undo.cls ≠ "java/lang/invoke/VarHandle" ∧ (parseMethodDescriptor yX9_undo.desc).map (fun d => d.parameters.length) = some 0) := ⟨rfl, hz_X9_undo⟩
theorem hz_X9_wonIn : (yX9_wonIn.cls ≠ "java/lang/invoke/MethodHandle" ∧ yX9_wonIn.cls ≠ "java/lang/invoke/VarHandle" ∧ (parseMethodDescriptor yX9_wonIn.desc).map (fun d => d.parameters.length) = some 1) := ⟨by decide +kernel, by decide +kernel, by decide +kernel⟩
theorem hy_X9_wonIn : yX9_wonIn.cls = RX9 ∧ (yX9_wonIn.cls ≠ "java/lang/invoke/MethodHandle" ∧ yX9_wonIn.cls ≠ "java/lang/invoke/VarHandle" ∧ (parseMethodDescriptor yX9_wonIn.desc).map (fun d => d.parameters.length) = some 1) := ⟨rfl, hz_X9_wonIn⟩
theorem hz_X9_wouldChange : (yX9_wouldChange.cls ≠ "java/lang/invoke/MethodHandle" ∧ yX9_wouldChange.cls ≠ "java/lang/invoke/VarHandle" ∧ (parseMethodDescriptor yX9_wouldChange.desc).map (fun d => d.parameters.length) = some 2) := ⟨by decide +kernel, by decide +kernel, by decide +kernel⟩
theorem hy_X9_wouldChange : yX9_wouldChange.cls = RX9 ∧ (yX9_wouldChange.cls ≠ "java/lang/invoke/MethodHandle" ∧ yX9_wouldChange.cls ≠ "java/lang/invoke/VarHandle" ∧ (parseMethodDescriptor yX9_wouldChange.desc).map (fun d => d.parameters.length) = some 2) := ⟨rfl, hz_X9_wouldChange⟩
def w_R_dig (u : MU) (Q : Int32 → MU → Prop) : Prop := w_X9_dig  u (fun r u1 => Q r u1) (fun E u1 => (E = "java/lang/UnsupportedOperationException" ∧ Q (-1001 : Int32) u1))
abbrev rm_L_dig : Room := { frames := 8, cells := 1, slots := 6, locals := 326 }
set_option maxHeartbeats 4000000 in
set_option maxRecDepth 100000 in
theorem c_L_dig (l : Launch) (hstk : l.stackTraces = false) (g : GE) (u : MU) (W : MU × ((Nat → Int64) × (Nat → UInt64))) {Q : Int32 → MU → Prop} (h : w_R_dig  u Q) : Met l yL_dig (.codeWith yL_dig cL_dig 2 (Option.some Jvm.ClassFile.FieldType.int) [((0 : Nat), (4 : Nat), (5 : Nat), (13 : Nat))] :: TB) rm_L_dig (zPc g (u, W) [.ref (g.2.2.1 0)]) (zQi g (zPx W Q)) 1 6 (zA g) := by
  unfold w_R_dig at h
  refine zMetT (own := RL) [(0, .ref (g.2.2.1 0))] (by decide +kernel) rfl (Nat.le_of_ble_eq_true rfl) rfl (fun p e s m args below meth c C hr ht => ?_)
  refine zm_aload_n C dL_dig_0 rfl 0 rfl ?_
  refine zx_ci (zrX_V (As := []) (rest := []) C (c_X9_dig l hstk g u W  h) wd_339 wd_340 wd_341 wd_1 wd_342 hy_X9_dig rfl rfl ⟨by decide, by decide⟩ ⟨by decide, by decide⟩ (ci := 9) (by decide) (zCell_k kd_0) rfl rfl rfl rfl (Nat.le_of_ble_eq_true rfl) dL_dig_1) (fun E M1 hq => ?_) (fun r M1 hq => ?_)
  · obtain ⟨u1, rfl, h⟩ := hq
    obtain ⟨rfl, h⟩ := h
    refine zm_catch (name := "java/lang/UnsupportedOperationException") C [] ⟨0, 4, 5, 13⟩ [] ht (fun z hz => nomatch hz) (by decide) (by decide) wd_338 wd_369 (fun q => ?_)
    refine zm_astore_n (lv' := [(1, .ref q), (0, .ref (g.2.2.1 0))]) C dL_dig_5 rfl (by decide) rfl ?_
    refine zm_sipush (v := -1001) C dL_dig_6 (by decide) ?_
    exact zm_iret C hr dL_dig_9 ⟨u1, rfl, h⟩
  · obtain ⟨u1, rfl, h⟩ := hq
    exact zm_iret C hr dL_dig_4 ⟨u1, rfl, h⟩
def w_R_tread (x1 : Int32) (x2 : Int32) (u : MU) (Q : Int32 → MU → Prop) : Prop := w_X9_tread x1 x2 u (fun r u1 => Q r u1) (fun E u1 => (E = "java/lang/UnsupportedOperationException" ∧ Q (-1001 : Int32) u1))
abbrev rm_L_tread : Room := { frames := 8, cells := 1, slots := 6, locals := 328 }
set_option maxHeartbeats 4000000 in
set_option maxRecDepth 100000 in
theorem c_L_tread (l : Launch) (hstk : l.stackTraces = false) (g : GE) (u : MU) (W : MU × ((Nat → Int64) × (Nat → UInt64))) (x1 : Int32) (x2 : Int32) {Q : Int32 → MU → Prop} (h : w_R_tread x1 x2 u Q) : Met l yL_tread (.codeWith yL_tread cL_tread 4 (Option.some Jvm.ClassFile.FieldType.int) [((0 : Nat), (6 : Nat), (7 : Nat), (13 : Nat))] :: TB) rm_L_tread (zPc g (u, W) [.ref (g.2.2.1 0), .int x1, .int x2]) (zQi g (zPx W Q)) 1 6 (zA g) := by
  unfold w_R_tread at h
  refine zMetT (own := RL) [(0, .ref (g.2.2.1 0)), (1, .int x1), (2, .int x2)] (by decide +kernel) rfl (Nat.le_of_ble_eq_true rfl) rfl (fun p e s m args below meth c C hr ht => ?_)
  refine zm_aload_n C dL_tread_0 rfl 0 rfl ?_
  refine zm_iload_n C dL_tread_1 rfl 1 rfl ?_
  refine zm_iload_n C dL_tread_2 rfl 2 rfl ?_
  refine zx_ci (zrX_V (As := [.int x1, .int x2]) (rest := []) C (c_X9_tread l hstk g u W x1 x2 h) wd_452 wd_453 wd_454 wd_1 wd_455 hy_X9_tread rfl rfl ⟨by decide, by decide⟩ ⟨by decide, by decide⟩ (ci := 9) (by decide) (zCell_k kd_0) rfl rfl rfl rfl (Nat.le_of_ble_eq_true rfl) dL_tread_3) (fun E M1 hq => ?_) (fun r M1 hq => ?_)
  · obtain ⟨u1, rfl, h⟩ := hq
    obtain ⟨rfl, h⟩ := h
    refine zm_catch (name := "java/lang/UnsupportedOperationException") C [] ⟨0, 6, 7, 13⟩ [] ht (fun z hz => nomatch hz) (by decide) (by decide) wd_338 wd_369 (fun q => ?_)
    refine zm_astore_n (lv' := [(3, .ref q), (0, .ref (g.2.2.1 0)), (1, .int x1), (2, .int x2)]) C dL_tread_7 rfl (by decide) rfl ?_
    refine zm_sipush (v := -1001) C dL_tread_8 (by decide) ?_
    exact zm_iret C hr dL_tread_11 ⟨u1, rfl, h⟩
  · obtain ⟨u1, rfl, h⟩ := hq
    exact zm_iret C hr dL_tread_6 ⟨u1, rfl, h⟩
def w_R_grow (x1 : Int32) (x2 : Int32) (u : MU) (Q : Int32 → MU → Prop) : Prop := w_X9_grow x1 x2 u (fun r u1 => Q r u1) (fun E u1 => (E = "java/lang/UnsupportedOperationException" ∧ Q (-1001 : Int32) u1))
abbrev rm_L_grow : Room := { frames := 8, cells := 1, slots := 6, locals := 328 }
set_option maxHeartbeats 4000000 in
set_option maxRecDepth 100000 in
theorem c_L_grow (l : Launch) (hstk : l.stackTraces = false) (g : GE) (u : MU) (W : MU × ((Nat → Int64) × (Nat → UInt64))) (x1 : Int32) (x2 : Int32) {Q : Int32 → MU → Prop} (h : w_R_grow x1 x2 u Q) : Met l yL_grow (.codeWith yL_grow cL_grow 4 (Option.some Jvm.ClassFile.FieldType.int) [((0 : Nat), (6 : Nat), (7 : Nat), (13 : Nat))] :: TB) rm_L_grow (zPc g (u, W) [.ref (g.2.2.1 0), .int x1, .int x2]) (zQi g (zPx W Q)) 1 6 (zA g) := by
  unfold w_R_grow at h
  refine zMetT (own := RL) [(0, .ref (g.2.2.1 0)), (1, .int x1), (2, .int x2)] (by decide +kernel) rfl (Nat.le_of_ble_eq_true rfl) rfl (fun p e s m args below meth c C hr ht => ?_)
  refine zm_aload_n C dL_grow_0 rfl 0 rfl ?_
  refine zm_iload_n C dL_grow_1 rfl 1 rfl ?_
  refine zm_iload_n C dL_grow_2 rfl 2 rfl ?_
  refine zx_ci (zrX_V (As := [.int x1, .int x2]) (rest := []) C (c_X9_grow l hstk g u W x1 x2 h) wd_492 wd_493 wd_494 wd_1 wd_495 hy_X9_grow rfl rfl ⟨by decide, by decide⟩ ⟨by decide, by decide⟩ (ci := 9) (by decide) (zCell_k kd_0) rfl rfl rfl rfl (Nat.le_of_ble_eq_true rfl) dL_grow_3) (fun E M1 hq => ?_) (fun r M1 hq => ?_)
  · obtain ⟨u1, rfl, h⟩ := hq
    obtain ⟨rfl, h⟩ := h
    refine zm_catch (name := "java/lang/UnsupportedOperationException") C [] ⟨0, 6, 7, 13⟩ [] ht (fun z hz => nomatch hz) (by decide) (by decide) wd_338 wd_369 (fun q => ?_)
    refine zm_astore_n (lv' := [(3, .ref q), (0, .ref (g.2.2.1 0)), (1, .int x1), (2, .int x2)]) C dL_grow_7 rfl (by decide) rfl ?_
    refine zm_sipush (v := -1001) C dL_grow_8 (by decide) ?_
    exact zm_iret C hr dL_grow_11 ⟨u1, rfl, h⟩
  · obtain ⟨u1, rfl, h⟩ := hq
    exact zm_iret C hr dL_grow_6 ⟨u1, rfl, h⟩
def w_R_trap (x1 : Int32) (x2 : Int32) (u : MU) (Q : Int32 → MU → Prop) : Prop := w_X9_trap x1 x2 u (fun r u1 => Q r u1) (fun E u1 => (E = "java/lang/UnsupportedOperationException" ∧ Q (-1001 : Int32) u1))
abbrev rm_L_trap : Room := { frames := 8, cells := 1, slots := 6, locals := 328 }
set_option maxHeartbeats 4000000 in
set_option maxRecDepth 100000 in
theorem c_L_trap (l : Launch) (hstk : l.stackTraces = false) (g : GE) (u : MU) (W : MU × ((Nat → Int64) × (Nat → UInt64))) (x1 : Int32) (x2 : Int32) {Q : Int32 → MU → Prop} (h : w_R_trap x1 x2 u Q) : Met l yL_trap (.codeWith yL_trap cL_trap 4 (Option.some Jvm.ClassFile.FieldType.int) [((0 : Nat), (6 : Nat), (7 : Nat), (13 : Nat))] :: TB) rm_L_trap (zPc g (u, W) [.ref (g.2.2.1 0), .int x1, .int x2]) (zQi g (zPx W Q)) 1 6 (zA g) := by
  unfold w_R_trap at h
  refine zMetT (own := RL) [(0, .ref (g.2.2.1 0)), (1, .int x1), (2, .int x2)] (by decide +kernel) rfl (Nat.le_of_ble_eq_true rfl) rfl (fun p e s m args below meth c C hr ht => ?_)
  refine zm_aload_n C dL_trap_0 rfl 0 rfl ?_
  refine zm_iload_n C dL_trap_1 rfl 1 rfl ?_
  refine zm_iload_n C dL_trap_2 rfl 2 rfl ?_
  refine zx_ci (zrX_V (As := [.int x1, .int x2]) (rest := []) C (c_X9_trap l hstk g u W x1 x2 h) wd_900 wd_901 wd_902 wd_1 wd_903 hy_X9_trap rfl rfl ⟨by decide, by decide⟩ ⟨by decide, by decide⟩ (ci := 9) (by decide) (zCell_k kd_0) rfl rfl rfl rfl (Nat.le_of_ble_eq_true rfl) dL_trap_3) (fun E M1 hq => ?_) (fun r M1 hq => ?_)
  · obtain ⟨u1, rfl, h⟩ := hq
    obtain ⟨rfl, h⟩ := h
    refine zm_catch (name := "java/lang/UnsupportedOperationException") C [] ⟨0, 6, 7, 13⟩ [] ht (fun z hz => nomatch hz) (by decide) (by decide) wd_338 wd_369 (fun q => ?_)
    refine zm_astore_n (lv' := [(3, .ref q), (0, .ref (g.2.2.1 0)), (1, .int x1), (2, .int x2)]) C dL_trap_7 rfl (by decide) rfl ?_
    refine zm_sipush (v := -1001) C dL_trap_8 (by decide) ?_
    exact zm_iret C hr dL_trap_11 ⟨u1, rfl, h⟩
  · obtain ⟨u1, rfl, h⟩ := hq
    exact zm_iret C hr dL_trap_6 ⟨u1, rfl, h⟩
def w_R_flock (x1 : Int32) (u : MU) (Q : Int32 → MU → Prop) : Prop := w_X9_flock x1 u (fun r u1 => Q r u1) (fun E u1 => (E = "java/lang/UnsupportedOperationException" ∧ Q (-1001 : Int32) u1))
abbrev rm_L_flock : Room := { frames := 8, cells := 1, slots := 6, locals := 327 }
set_option maxHeartbeats 4000000 in
set_option maxRecDepth 100000 in
theorem c_L_flock (l : Launch) (hstk : l.stackTraces = false) (g : GE) (u : MU) (W : MU × ((Nat → Int64) × (Nat → UInt64))) (x1 : Int32) {Q : Int32 → MU → Prop} (h : w_R_flock x1 u Q) : Met l yL_flock (.codeWith yL_flock cL_flock 3 (Option.some Jvm.ClassFile.FieldType.int) [((0 : Nat), (5 : Nat), (6 : Nat), (13 : Nat))] :: TB) rm_L_flock (zPc g (u, W) [.ref (g.2.2.1 0), .int x1]) (zQi g (zPx W Q)) 1 6 (zA g) := by
  unfold w_R_flock at h
  refine zMetT (own := RL) [(0, .ref (g.2.2.1 0)), (1, .int x1)] (by decide +kernel) rfl (Nat.le_of_ble_eq_true rfl) rfl (fun p e s m args below meth c C hr ht => ?_)
  refine zm_aload_n C dL_flock_0 rfl 0 rfl ?_
  refine zm_iload_n C dL_flock_1 rfl 1 rfl ?_
  refine zx_ci (zrX_V (As := [.int x1]) (rest := []) C (c_X9_flock l hstk g u W x1 h) wd_507 wd_508 wd_509 wd_1 wd_510 hy_X9_flock rfl rfl ⟨by decide, by decide⟩ ⟨by decide, by decide⟩ (ci := 9) (by decide) (zCell_k kd_0) rfl rfl rfl rfl (Nat.le_of_ble_eq_true rfl) dL_flock_2) (fun E M1 hq => ?_) (fun r M1 hq => ?_)
  · obtain ⟨u1, rfl, h⟩ := hq
    obtain ⟨rfl, h⟩ := h
    refine zm_catch (name := "java/lang/UnsupportedOperationException") C [] ⟨0, 5, 6, 13⟩ [] ht (fun z hz => nomatch hz) (by decide) (by decide) wd_338 wd_369 (fun q => ?_)
    refine zm_astore_n (lv' := [(2, .ref q), (0, .ref (g.2.2.1 0)), (1, .int x1)]) C dL_flock_6 rfl (by decide) rfl ?_
    refine zm_sipush (v := -1001) C dL_flock_7 (by decide) ?_
    exact zm_iret C hr dL_flock_10 ⟨u1, rfl, h⟩
  · obtain ⟨u1, rfl, h⟩ := hq
    exact zm_iret C hr dL_flock_5 ⟨u1, rfl, h⟩
def w_R_begin (x1 : Int32) (u : MU) (Q : Int32 → MU → Prop) : Prop := w_X9_begin x1 u (fun r u1 => Q r u1) (fun E u1 => (E = "java/lang/UnsupportedOperationException" ∧ Q (-1001 : Int32) u1))
abbrev rm_L_begin : Room := { frames := 8, cells := 1, slots := 6, locals := 327 }
set_option maxHeartbeats 4000000 in
set_option maxRecDepth 100000 in
theorem c_L_begin (l : Launch) (hstk : l.stackTraces = false) (g : GE) (u : MU) (W : MU × ((Nat → Int64) × (Nat → UInt64))) (x1 : Int32) {Q : Int32 → MU → Prop} (h : w_R_begin x1 u Q) : Met l yL_begin (.codeWith yL_begin cL_begin 3 (Option.some Jvm.ClassFile.FieldType.int) [((0 : Nat), (5 : Nat), (6 : Nat), (13 : Nat))] :: TB) rm_L_begin (zPc g (u, W) [.ref (g.2.2.1 0), .int x1]) (zQi g (zPx W Q)) 1 6 (zA g) := by
  unfold w_R_begin at h
  refine zMetT (own := RL) [(0, .ref (g.2.2.1 0)), (1, .int x1)] (by decide +kernel) rfl (Nat.le_of_ble_eq_true rfl) rfl (fun p e s m args below meth c C hr ht => ?_)
  refine zm_aload_n C dL_begin_0 rfl 0 rfl ?_
  refine zm_iload_n C dL_begin_1 rfl 1 rfl ?_
  refine zx_ci (zrX_V (As := [.int x1]) (rest := []) C (c_X9_begin l hstk g u W x1 h) wd_1100 wd_1101 wd_1102 wd_1 wd_1103 hy_X9_begin rfl rfl ⟨by decide, by decide⟩ ⟨by decide, by decide⟩ (ci := 9) (by decide) (zCell_k kd_0) rfl rfl rfl rfl (Nat.le_of_ble_eq_true rfl) dL_begin_2) (fun E M1 hq => ?_) (fun r M1 hq => ?_)
  · obtain ⟨u1, rfl, h⟩ := hq
    obtain ⟨rfl, h⟩ := h
    refine zm_catch (name := "java/lang/UnsupportedOperationException") C [] ⟨0, 5, 6, 13⟩ [] ht (fun z hz => nomatch hz) (by decide) (by decide) wd_338 wd_369 (fun q => ?_)
    refine zm_astore_n (lv' := [(2, .ref q), (0, .ref (g.2.2.1 0)), (1, .int x1)]) C dL_begin_6 rfl (by decide) rfl ?_
    refine zm_sipush (v := -1001) C dL_begin_7 (by decide) ?_
    exact zm_iret C hr dL_begin_10 ⟨u1, rfl, h⟩
  · obtain ⟨u1, rfl, h⟩ := hq
    exact zm_iret C hr dL_begin_5 ⟨u1, rfl, h⟩
def w_R_move (x1 : Int32) (x2 : Int32) (u : MU) (Q : Int32 → MU → Prop) : Prop := w_X9_move x1 x2 u (fun r u1 => Q r u1) (fun E u1 => (E = "java/lang/UnsupportedOperationException" ∧ Q (-1001 : Int32) u1))
abbrev rm_L_move : Room := { frames := 8, cells := 1, slots := 6, locals := 328 }
set_option maxHeartbeats 4000000 in
set_option maxRecDepth 100000 in
theorem c_L_move (l : Launch) (hstk : l.stackTraces = false) (g : GE) (u : MU) (W : MU × ((Nat → Int64) × (Nat → UInt64))) (x1 : Int32) (x2 : Int32) {Q : Int32 → MU → Prop} (h : w_R_move x1 x2 u Q) : Met l yL_move (.codeWith yL_move cL_move 4 (Option.some Jvm.ClassFile.FieldType.int) [((0 : Nat), (6 : Nat), (7 : Nat), (13 : Nat))] :: TB) rm_L_move (zPc g (u, W) [.ref (g.2.2.1 0), .int x1, .int x2]) (zQi g (zPx W Q)) 1 6 (zA g) := by
  unfold w_R_move at h
  refine zMetT (own := RL) [(0, .ref (g.2.2.1 0)), (1, .int x1), (2, .int x2)] (by decide +kernel) rfl (Nat.le_of_ble_eq_true rfl) rfl (fun p e s m args below meth c C hr ht => ?_)
  refine zm_aload_n C dL_move_0 rfl 0 rfl ?_
  refine zm_iload_n C dL_move_1 rfl 1 rfl ?_
  refine zm_iload_n C dL_move_2 rfl 2 rfl ?_
  refine zx_ci (zrX_V (As := [.int x1, .int x2]) (rest := []) C (c_X9_move l hstk g u W x1 x2 h) wd_1386 wd_1387 wd_1388 wd_1 wd_1389 hy_X9_move rfl rfl ⟨by decide, by decide⟩ ⟨by decide, by decide⟩ (ci := 9) (by decide) (zCell_k kd_0) rfl rfl rfl rfl (Nat.le_of_ble_eq_true rfl) dL_move_3) (fun E M1 hq => ?_) (fun r M1 hq => ?_)
  · obtain ⟨u1, rfl, h⟩ := hq
    obtain ⟨rfl, h⟩ := h
    refine zm_catch (name := "java/lang/UnsupportedOperationException") C [] ⟨0, 6, 7, 13⟩ [] ht (fun z hz => nomatch hz) (by decide) (by decide) wd_338 wd_369 (fun q => ?_)
    refine zm_astore_n (lv' := [(3, .ref q), (0, .ref (g.2.2.1 0)), (1, .int x1), (2, .int x2)]) C dL_move_7 rfl (by decide) rfl ?_
    refine zm_sipush (v := -1001) C dL_move_8 (by decide) ?_
    exact zm_iret C hr dL_move_11 ⟨u1, rfl, h⟩
  · obtain ⟨u1, rfl, h⟩ := hq
    exact zm_iret C hr dL_move_6 ⟨u1, rfl, h⟩
def w_R_play (x1 : Int32) (u : MU) (Q : Int32 → MU → Prop) : Prop := w_X9_play x1 u (fun r u1 => Q r u1) (fun E u1 => (E = "java/lang/UnsupportedOperationException" ∧ Q (-1001 : Int32) u1))
abbrev rm_L_play : Room := { frames := 8, cells := 1, slots := 6, locals := 327 }
set_option maxHeartbeats 4000000 in
set_option maxRecDepth 100000 in
theorem c_L_play (l : Launch) (hstk : l.stackTraces = false) (g : GE) (u : MU) (W : MU × ((Nat → Int64) × (Nat → UInt64))) (x1 : Int32) {Q : Int32 → MU → Prop} (h : w_R_play x1 u Q) : Met l yL_play (.codeWith yL_play cL_play 3 (Option.some Jvm.ClassFile.FieldType.int) [((0 : Nat), (5 : Nat), (6 : Nat), (13 : Nat))] :: TB) rm_L_play (zPc g (u, W) [.ref (g.2.2.1 0), .int x1]) (zQi g (zPx W Q)) 1 6 (zA g) := by
  unfold w_R_play at h
  refine zMetT (own := RL) [(0, .ref (g.2.2.1 0)), (1, .int x1)] (by decide +kernel) rfl (Nat.le_of_ble_eq_true rfl) rfl (fun p e s m args below meth c C hr ht => ?_)
  refine zm_aload_n C dL_play_0 rfl 0 rfl ?_
  refine zm_iload_n C dL_play_1 rfl 1 rfl ?_
  refine zx_ci (zrX_V (As := [.int x1]) (rest := []) C (c_X9_play l hstk g u W x1 h) wd_1107 wd_1108 wd_1109 wd_1 wd_1110 hy_X9_play rfl rfl ⟨by decide, by decide⟩ ⟨by decide, by decide⟩ (ci := 9) (by decide) (zCell_k kd_0) rfl rfl rfl rfl (Nat.le_of_ble_eq_true rfl) dL_play_2) (fun E M1 hq => ?_) (fun r M1 hq => ?_)
  · obtain ⟨u1, rfl, h⟩ := hq
    obtain ⟨rfl, h⟩ := h
    refine zm_catch (name := "java/lang/UnsupportedOperationException") C [] ⟨0, 5, 6, 13⟩ [] ht (fun z hz => nomatch hz) (by decide) (by decide) wd_338 wd_369 (fun q => ?_)
    refine zm_astore_n (lv' := [(2, .ref q), (0, .ref (g.2.2.1 0)), (1, .int x1)]) C dL_play_6 rfl (by decide) rfl ?_
    refine zm_sipush (v := -1001) C dL_play_7 (by decide) ?_
    exact zm_iret C hr dL_play_10 ⟨u1, rfl, h⟩
  · obtain ⟨u1, rfl, h⟩ := hq
    exact zm_iret C hr dL_play_5 ⟨u1, rfl, h⟩
def w_R_back (u : MU) (Q : Int32 → MU → Prop) : Prop := w_X9_back  u (fun r u1 => Q r u1) (fun E u1 => (E = "java/lang/UnsupportedOperationException" ∧ Q (-1001 : Int32) u1))
abbrev rm_L_back : Room := { frames := 8, cells := 1, slots := 6, locals := 326 }
set_option maxHeartbeats 4000000 in
set_option maxRecDepth 100000 in
theorem c_L_back (l : Launch) (hstk : l.stackTraces = false) (g : GE) (u : MU) (W : MU × ((Nat → Int64) × (Nat → UInt64))) {Q : Int32 → MU → Prop} (h : w_R_back  u Q) : Met l yL_back (.codeWith yL_back cL_back 2 (Option.some Jvm.ClassFile.FieldType.int) [((0 : Nat), (4 : Nat), (5 : Nat), (13 : Nat))] :: TB) rm_L_back (zPc g (u, W) [.ref (g.2.2.1 0)]) (zQi g (zPx W Q)) 1 6 (zA g) := by
  unfold w_R_back at h
  refine zMetT (own := RL) [(0, .ref (g.2.2.1 0))] (by decide +kernel) rfl (Nat.le_of_ble_eq_true rfl) rfl (fun p e s m args below meth c C hr ht => ?_)
  refine zm_aload_n C dL_back_0 rfl 0 rfl ?_
  refine zx_ci (zrX_V (As := []) (rest := []) C (c_X9_back l hstk g u W  h) wd_1114 wd_1115 wd_1116 wd_1 wd_1117 hy_X9_back rfl rfl ⟨by decide, by decide⟩ ⟨by decide, by decide⟩ (ci := 9) (by decide) (zCell_k kd_0) rfl rfl rfl rfl (Nat.le_of_ble_eq_true rfl) dL_back_1) (fun E M1 hq => ?_) (fun r M1 hq => ?_)
  · obtain ⟨u1, rfl, h⟩ := hq
    obtain ⟨rfl, h⟩ := h
    refine zm_catch (name := "java/lang/UnsupportedOperationException") C [] ⟨0, 4, 5, 13⟩ [] ht (fun z hz => nomatch hz) (by decide) (by decide) wd_338 wd_369 (fun q => ?_)
    refine zm_astore_n (lv' := [(1, .ref q), (0, .ref (g.2.2.1 0))]) C dL_back_5 rfl (by decide) rfl ?_
    refine zm_sipush (v := -1001) C dL_back_6 (by decide) ?_
    exact zm_iret C hr dL_back_9 ⟨u1, rfl, h⟩
  · obtain ⟨u1, rfl, h⟩ := hq
    exact zm_iret C hr dL_back_4 ⟨u1, rfl, h⟩
def w_R_position (x1 : Int32) (x2 : Int32) (x3 : Int32) (x4 : Int32) (u : MU) (Q : Int32 → MU → Prop) : Prop := w_X9_position x1 x2 x3 x4 u (fun r u1 => Q r u1) (fun E u1 => (E = "java/util/NoSuchElementException" ∧ Q (-1001 : Int32) u1))
abbrev rm_L_position : Room := { frames := 7, cells := 1, slots := 6, locals := 114 }
set_option maxHeartbeats 4000000 in
set_option maxRecDepth 100000 in
theorem c_L_position (l : Launch) (hstk : l.stackTraces = false) (g : GE) (u : MU) (W : MU × ((Nat → Int64) × (Nat → UInt64))) (x1 : Int32) (x2 : Int32) (x3 : Int32) (x4 : Int32) {Q : Int32 → MU → Prop} (h : w_R_position x1 x2 x3 x4 u Q) : Met l yL_position (.codeWith yL_position cL_position 6 (Option.some Jvm.ClassFile.FieldType.int) [((0 : Nat), (9 : Nat), (10 : Nat), (46 : Nat))] :: TB) rm_L_position (zPc g (u, W) [.ref (g.2.2.1 0), .int x1, .int x2, .int x3, .int x4]) (zQi g (zPx W Q)) 1 6 (zA g) := by
  unfold w_R_position at h
  refine zMetT (own := RL) [(0, .ref (g.2.2.1 0)), (1, .int x1), (2, .int x2), (3, .int x3), (4, .int x4)] (by decide +kernel) rfl (Nat.le_of_ble_eq_true rfl) rfl (fun p e s m args below meth c C hr ht => ?_)
  refine zm_aload_n C dL_position_0 rfl 0 rfl ?_
  refine zm_iload_n C dL_position_1 rfl 1 rfl ?_
  refine zm_iload_n C dL_position_2 rfl 2 rfl ?_
  refine zm_iload_n C dL_position_3 rfl 3 rfl ?_
  refine zm_iload C dL_position_4 4 rfl ?_
  refine zx_ci (zrX_V (As := [.int x1, .int x2, .int x3, .int x4]) (rest := []) C (c_X9_position l hstk g u W x1 x2 x3 x4 h) wd_1396 wd_1397 wd_1398 wd_1 wd_1399 hy_X9_position rfl rfl ⟨by decide, by decide⟩ ⟨by decide, by decide⟩ (ci := 9) (by decide) (zCell_k kd_0) rfl rfl rfl rfl (Nat.le_of_ble_eq_true rfl) dL_position_6) (fun E M1 hq => ?_) (fun r M1 hq => ?_)
  · obtain ⟨u1, rfl, h⟩ := hq
    obtain ⟨rfl, h⟩ := h
    refine zm_catch (name := "java/util/NoSuchElementException") C [] ⟨0, 9, 10, 46⟩ [] ht (fun z hz => nomatch hz) (by decide) (by decide) wd_869 wd_877 (fun q => ?_)
    refine zm_astore (lv' := [(5, .ref q), (0, .ref (g.2.2.1 0)), (1, .int x1), (2, .int x2), (3, .int x3), (4, .int x4)]) C dL_position_10 (by decide) rfl ?_
    refine zm_sipush (v := -1001) C dL_position_12 (by decide) ?_
    exact zm_iret C hr dL_position_15 ⟨u1, rfl, h⟩
  · obtain ⟨u1, rfl, h⟩ := hq
    exact zm_iret C hr dL_position_9 ⟨u1, rfl, h⟩
def w_R_positionOf (x1 : Int32) (x2 : Int32) (u : MU) (Q : Int32 → MU → Prop) : Prop := w_X9_positionOf x1 x2 u (fun r u1 => Q r u1) (fun E u1 => (E = "java/lang/IllegalArgumentException" ∧ Q (-1001 : Int32) u1) ∨ (E = "java/util/NoSuchElementException" ∧ Q (-1002 : Int32) u1))
abbrev rm_L_positionOf : Room := { frames := 8, cells := 1, slots := 6, locals := 133 }
set_option maxHeartbeats 4000000 in
set_option maxRecDepth 100000 in
theorem c_L_positionOf (l : Launch) (hstk : l.stackTraces = false) (g : GE) (u : MU) (W : MU × ((Nat → Int64) × (Nat → UInt64))) (x1 : Int32) (x2 : Int32) {Q : Int32 → MU → Prop} (h : w_R_positionOf x1 x2 u Q) : Met l yL_positionOf (.codeWith yL_positionOf cL_positionOf 4 (Option.some Jvm.ClassFile.FieldType.int) [((0 : Nat), (6 : Nat), (7 : Nat), (51 : Nat)), ((0 : Nat), (6 : Nat), (12 : Nat), (46 : Nat))] :: TB) rm_L_positionOf (zPc g (u, W) [.ref (g.2.2.1 0), .int x1, .int x2]) (zQi g (zPx W Q)) 1 6 (zA g) := by
  unfold w_R_positionOf at h
  refine zMetT (own := RL) [(0, .ref (g.2.2.1 0)), (1, .int x1), (2, .int x2)] (by decide +kernel) rfl (Nat.le_of_ble_eq_true rfl) rfl (fun p e s m args below meth c C hr ht => ?_)
  refine zm_aload_n C dL_positionOf_0 rfl 0 rfl ?_
  refine zm_iload_n C dL_positionOf_1 rfl 1 rfl ?_
  refine zm_iload_n C dL_positionOf_2 rfl 2 rfl ?_
  refine zx_ci (zrX_V (As := [.int x1, .int x2]) (rest := []) C (c_X9_positionOf l hstk g u W x1 x2 h) wd_974 wd_975 wd_976 wd_1 wd_977 hy_X9_positionOf rfl rfl ⟨by decide, by decide⟩ ⟨by decide, by decide⟩ (ci := 9) (by decide) (zCell_k kd_0) rfl rfl rfl rfl (Nat.le_of_ble_eq_true rfl) dL_positionOf_3) (fun E M1 hq => ?_) (fun r M1 hq => ?_)
  · obtain ⟨u1, rfl, h⟩ := hq
    rcases h with ⟨rfl, h⟩ | ⟨rfl, h⟩
    · refine zm_catch (name := "java/lang/IllegalArgumentException") C [] ⟨0, 6, 7, 51⟩ [⟨0, 6, 12, 46⟩] ht (fun z hz => nomatch hz) (by decide) (by decide) wd_542 wd_562 (fun q => ?_)
      refine zm_astore_n (lv' := [(3, .ref q), (0, .ref (g.2.2.1 0)), (1, .int x1), (2, .int x2)]) C dL_positionOf_7 rfl (by decide) rfl ?_
      refine zm_sipush (v := -1001) C dL_positionOf_8 (by decide) ?_
      exact zm_iret C hr dL_positionOf_11 ⟨u1, rfl, h⟩
    · refine zm_catch (name := "java/util/NoSuchElementException") C [⟨0, 6, 7, 51⟩] ⟨0, 6, 12, 46⟩ [] ht (fun z hz => by rw [List.mem_singleton] at hz; subst hz; exact Or.inr ⟨by decide, "java/lang/IllegalArgumentException", wd_542, by decide⟩) (by decide) (by decide) wd_869 wd_877 (fun q => ?_)
      refine zm_astore_n (lv' := [(3, .ref q), (0, .ref (g.2.2.1 0)), (1, .int x1), (2, .int x2)]) C dL_positionOf_12 rfl (by decide) rfl ?_
      refine zm_sipush (v := -1002) C dL_positionOf_13 (by decide) ?_
      exact zm_iret C hr dL_positionOf_16 ⟨u1, rfl, h⟩
  · obtain ⟨u1, rfl, h⟩ := hq
    exact zm_iret C hr dL_positionOf_6 ⟨u1, rfl, h⟩
def w_R_outcomeAgain (x1 : Int32) (u : MU) (Q : Int32 → MU → Prop) : Prop := w_X9_outcomeAgain x1 u (fun r u1 => Q r u1) (fun E u1 => (E = "java/util/NoSuchElementException" ∧ Q (-1001 : Int32) u1))
abbrev rm_L_outcomeAgain : Room := { frames := 8, cells := 1, slots := 6, locals := 142 }
set_option maxHeartbeats 4000000 in
set_option maxRecDepth 100000 in
theorem c_L_outcomeAgain (l : Launch) (hstk : l.stackTraces = false) (g : GE) (u : MU) (W : MU × ((Nat → Int64) × (Nat → UInt64))) (x1 : Int32) {Q : Int32 → MU → Prop} (h : w_R_outcomeAgain x1 u Q) : Met l yL_outcomeAgain (.codeWith yL_outcomeAgain cL_outcomeAgain 3 (Option.some Jvm.ClassFile.FieldType.int) [((0 : Nat), (5 : Nat), (6 : Nat), (46 : Nat))] :: TB) rm_L_outcomeAgain (zPc g (u, W) [.ref (g.2.2.1 0), .int x1]) (zQi g (zPx W Q)) 1 6 (zA g) := by
  unfold w_R_outcomeAgain at h
  refine zMetT (own := RL) [(0, .ref (g.2.2.1 0)), (1, .int x1)] (by decide +kernel) rfl (Nat.le_of_ble_eq_true rfl) rfl (fun p e s m args below meth c C hr ht => ?_)
  refine zm_aload_n C dL_outcomeAgain_0 rfl 0 rfl ?_
  refine zm_iload_n C dL_outcomeAgain_1 rfl 1 rfl ?_
  refine zx_ci (zrX_V (As := [.int x1]) (rest := []) C (c_X9_outcomeAgain l hstk g u W x1 h) wd_987 wd_988 wd_989 wd_1 wd_990 hy_X9_outcomeAgain rfl rfl ⟨by decide, by decide⟩ ⟨by decide, by decide⟩ (ci := 9) (by decide) (zCell_k kd_0) rfl rfl rfl rfl (Nat.le_of_ble_eq_true rfl) dL_outcomeAgain_2) (fun E M1 hq => ?_) (fun r M1 hq => ?_)
  · obtain ⟨u1, rfl, h⟩ := hq
    obtain ⟨rfl, h⟩ := h
    refine zm_catch (name := "java/util/NoSuchElementException") C [] ⟨0, 5, 6, 46⟩ [] ht (fun z hz => nomatch hz) (by decide) (by decide) wd_869 wd_877 (fun q => ?_)
    refine zm_astore_n (lv' := [(2, .ref q), (0, .ref (g.2.2.1 0)), (1, .int x1)]) C dL_outcomeAgain_6 rfl (by decide) rfl ?_
    refine zm_sipush (v := -1001) C dL_outcomeAgain_7 (by decide) ?_
    exact zm_iret C hr dL_outcomeAgain_10 ⟨u1, rfl, h⟩
  · obtain ⟨u1, rfl, h⟩ := hq
    exact zm_iret C hr dL_outcomeAgain_5 ⟨u1, rfl, h⟩
def w_R_moveOf (x1 : Int32) (x2 : Int32) (x3 : Int32) (u : MU) (Q : Int32 → MU → Prop) : Prop := w_X9_moveOf x1 x2 x3 u (fun r u1 => Q r u1) (fun E u1 => (E = "java/util/NoSuchElementException" ∧ Q (-1001 : Int32) u1))
abbrev rm_L_moveOf : Room := { frames := 8, cells := 2, slots := 12, locals := 137 }
set_option maxHeartbeats 4000000 in
set_option maxRecDepth 100000 in
theorem c_L_moveOf (l : Launch) (hstk : l.stackTraces = false) (g : GE) (u : MU) (W : MU × ((Nat → Int64) × (Nat → UInt64))) (x1 : Int32) (x2 : Int32) (x3 : Int32) {Q : Int32 → MU → Prop} (h : w_R_moveOf x1 x2 x3 u Q) : Met l yL_moveOf (.codeWith yL_moveOf cL_moveOf 5 (Option.some Jvm.ClassFile.FieldType.int) [((0 : Nat), (7 : Nat), (8 : Nat), (46 : Nat))] :: TB) rm_L_moveOf (zPc g (u, W) [.ref (g.2.2.1 0), .int x1, .int x2, .int x3]) (zQi g (zPx W Q)) 2 12 (zA g) := by
  unfold w_R_moveOf at h
  refine zMetT (own := RL) [(0, .ref (g.2.2.1 0)), (1, .int x1), (2, .int x2), (3, .int x3)] (by decide +kernel) rfl (Nat.le_of_ble_eq_true rfl) rfl (fun p e s m args below meth c C hr ht => ?_)
  refine zm_aload_n C dL_moveOf_0 rfl 0 rfl ?_
  refine zm_iload_n C dL_moveOf_1 rfl 1 rfl ?_
  refine zm_iload_n C dL_moveOf_2 rfl 2 rfl ?_
  refine zm_iload_n C dL_moveOf_3 rfl 3 rfl ?_
  refine zx_ci (zrX_V (As := [.int x1, .int x2, .int x3]) (rest := []) C (c_X9_moveOf l hstk g u W x1 x2 x3 h) wd_1040 wd_1041 wd_1042 wd_1 wd_1043 hy_X9_moveOf rfl rfl ⟨by decide, by decide⟩ ⟨by decide, by decide⟩ (ci := 9) (by decide) (zCell_k kd_0) rfl rfl rfl rfl (Nat.le_of_ble_eq_true rfl) dL_moveOf_4) (fun E M1 hq => ?_) (fun r M1 hq => ?_)
  · obtain ⟨u1, rfl, h⟩ := hq
    obtain ⟨rfl, h⟩ := h
    refine zm_catch (name := "java/util/NoSuchElementException") C [] ⟨0, 7, 8, 46⟩ [] ht (fun z hz => nomatch hz) (by decide) (by decide) wd_869 wd_877 (fun q => ?_)
    refine zm_astore (lv' := [(4, .ref q), (0, .ref (g.2.2.1 0)), (1, .int x1), (2, .int x2), (3, .int x3)]) C dL_moveOf_8 (by decide) rfl ?_
    refine zm_sipush (v := -1001) C dL_moveOf_10 (by decide) ?_
    exact zm_iret C hr dL_moveOf_13 ⟨u1, rfl, h⟩
  · obtain ⟨u1, rfl, h⟩ := hq
    exact zm_iret C hr dL_moveOf_7 ⟨u1, rfl, h⟩
def w_R_best (x1 : Int32) (u : MU) (Q : Int32 → MU → Prop) : Prop := w_X9_best x1 u (fun r u1 => Q r u1) (fun E u1 => (E = "java/util/NoSuchElementException" ∧ Q (-1001 : Int32) u1))
abbrev rm_L_best : Room := { frames := 8, cells := 2, slots := 12, locals := 133 }
set_option maxHeartbeats 4000000 in
set_option maxRecDepth 100000 in
theorem c_L_best (l : Launch) (hstk : l.stackTraces = false) (g : GE) (u : MU) (W : MU × ((Nat → Int64) × (Nat → UInt64))) (x1 : Int32) {Q : Int32 → MU → Prop} (h : w_R_best x1 u Q) : Met l yL_best (.codeWith yL_best cL_best 3 (Option.some Jvm.ClassFile.FieldType.int) [((0 : Nat), (5 : Nat), (6 : Nat), (46 : Nat))] :: TB) rm_L_best (zPc g (u, W) [.ref (g.2.2.1 0), .int x1]) (zQi g (zPx W Q)) 2 12 (zA g) := by
  unfold w_R_best at h
  refine zMetT (own := RL) [(0, .ref (g.2.2.1 0)), (1, .int x1)] (by decide +kernel) rfl (Nat.le_of_ble_eq_true rfl) rfl (fun p e s m args below meth c C hr ht => ?_)
  refine zm_aload_n C dL_best_0 rfl 0 rfl ?_
  refine zm_iload_n C dL_best_1 rfl 1 rfl ?_
  refine zx_ci (zrX_V (As := [.int x1]) (rest := []) C (c_X9_best l hstk g u W x1 h) wd_1016 wd_1017 wd_1018 wd_1 wd_1019 hy_X9_best rfl rfl ⟨by decide, by decide⟩ ⟨by decide, by decide⟩ (ci := 9) (by decide) (zCell_k kd_0) rfl rfl rfl rfl (Nat.le_of_ble_eq_true rfl) dL_best_2) (fun E M1 hq => ?_) (fun r M1 hq => ?_)
  · obtain ⟨u1, rfl, h⟩ := hq
    obtain ⟨rfl, h⟩ := h
    refine zm_catch (name := "java/util/NoSuchElementException") C [] ⟨0, 5, 6, 46⟩ [] ht (fun z hz => nomatch hz) (by decide) (by decide) wd_869 wd_877 (fun q => ?_)
    refine zm_astore_n (lv' := [(2, .ref q), (0, .ref (g.2.2.1 0)), (1, .int x1)]) C dL_best_6 rfl (by decide) rfl ?_
    refine zm_sipush (v := -1001) C dL_best_7 (by decide) ?_
    exact zm_iret C hr dL_best_10 ⟨u1, rfl, h⟩
  · obtain ⟨u1, rfl, h⟩ := hq
    exact zm_iret C hr dL_best_5 ⟨u1, rfl, h⟩
def w_R_after (x1 : Int32) (x2 : Int32) (x3 : Int32) (u : MU) (Q : Int32 → MU → Prop) : Prop := w_X9_after x1 x2 x3 u (fun r u1 => Q r u1) (fun E u1 => (E = "java/util/NoSuchElementException" ∧ Q (-1001 : Int32) u1))
abbrev rm_L_after : Room := { frames := 8, cells := 2, slots := 12, locals := 134 }
set_option maxHeartbeats 4000000 in
set_option maxRecDepth 100000 in
theorem c_L_after (l : Launch) (hstk : l.stackTraces = false) (g : GE) (u : MU) (W : MU × ((Nat → Int64) × (Nat → UInt64))) (x1 : Int32) (x2 : Int32) (x3 : Int32) {Q : Int32 → MU → Prop} (h : w_R_after x1 x2 x3 u Q) : Met l yL_after (.codeWith yL_after cL_after 5 (Option.some Jvm.ClassFile.FieldType.int) [((0 : Nat), (7 : Nat), (8 : Nat), (46 : Nat))] :: TB) rm_L_after (zPc g (u, W) [.ref (g.2.2.1 0), .int x1, .int x2, .int x3]) (zQi g (zPx W Q)) 2 12 (zA g) := by
  unfold w_R_after at h
  refine zMetT (own := RL) [(0, .ref (g.2.2.1 0)), (1, .int x1), (2, .int x2), (3, .int x3)] (by decide +kernel) rfl (Nat.le_of_ble_eq_true rfl) rfl (fun p e s m args below meth c C hr ht => ?_)
  refine zm_aload_n C dL_after_0 rfl 0 rfl ?_
  refine zm_iload_n C dL_after_1 rfl 1 rfl ?_
  refine zm_iload_n C dL_after_2 rfl 2 rfl ?_
  refine zm_iload_n C dL_after_3 rfl 3 rfl ?_
  refine zx_ci (zrX_V (As := [.int x1, .int x2, .int x3]) (rest := []) C (c_X9_after l hstk g u W x1 x2 x3 h) wd_1404 wd_1405 wd_1406 wd_1 wd_1407 hy_X9_after rfl rfl ⟨by decide, by decide⟩ ⟨by decide, by decide⟩ (ci := 9) (by decide) (zCell_k kd_0) rfl rfl rfl rfl (Nat.le_of_ble_eq_true rfl) dL_after_4) (fun E M1 hq => ?_) (fun r M1 hq => ?_)
  · obtain ⟨u1, rfl, h⟩ := hq
    obtain ⟨rfl, h⟩ := h
    refine zm_catch (name := "java/util/NoSuchElementException") C [] ⟨0, 7, 8, 46⟩ [] ht (fun z hz => nomatch hz) (by decide) (by decide) wd_869 wd_877 (fun q => ?_)
    refine zm_astore (lv' := [(4, .ref q), (0, .ref (g.2.2.1 0)), (1, .int x1), (2, .int x2), (3, .int x3)]) C dL_after_8 (by decide) rfl ?_
    refine zm_sipush (v := -1001) C dL_after_10 (by decide) ?_
    exact zm_iret C hr dL_after_13 ⟨u1, rfl, h⟩
  · obtain ⟨u1, rfl, h⟩ := hq
    exact zm_iret C hr dL_after_7 ⟨u1, rfl, h⟩
def w_R_ending (x1 : Int32) (u : MU) (Q : Int32 → MU → Prop) : Prop := w_X9_ends x1 u (fun r u1 => Q r u1) (fun E u1 => (E = "java/util/NoSuchElementException" ∧ Q (-1001 : Int32) u1))
abbrev rm_L_ending : Room := { frames := 8, cells := 2, slots := 12, locals := 136 }
set_option maxHeartbeats 4000000 in
set_option maxRecDepth 100000 in
theorem c_L_ending (l : Launch) (hstk : l.stackTraces = false) (g : GE) (u : MU) (W : MU × ((Nat → Int64) × (Nat → UInt64))) (x1 : Int32) {Q : Int32 → MU → Prop} (h : w_R_ending x1 u Q) : Met l yL_ending (.codeWith yL_ending cL_ending 3 (Option.some Jvm.ClassFile.FieldType.int) [((0 : Nat), (5 : Nat), (6 : Nat), (46 : Nat))] :: TB) rm_L_ending (zPc g (u, W) [.ref (g.2.2.1 0), .int x1]) (zQi g (zPx W Q)) 2 12 (zA g) := by
  unfold w_R_ending at h
  refine zMetT (own := RL) [(0, .ref (g.2.2.1 0)), (1, .int x1)] (by decide +kernel) rfl (Nat.le_of_ble_eq_true rfl) rfl (fun p e s m args below meth c C hr ht => ?_)
  refine zm_aload_n C dL_ending_0 rfl 0 rfl ?_
  refine zm_iload_n C dL_ending_1 rfl 1 rfl ?_
  refine zx_ci (zrX_V (As := [.int x1]) (rest := []) C (c_X9_ends l hstk g u W x1 h) wd_1024 wd_1025 wd_1026 wd_1 wd_1027 hy_X9_ends rfl rfl ⟨by decide, by decide⟩ ⟨by decide, by decide⟩ (ci := 9) (by decide) (zCell_k kd_0) rfl rfl rfl rfl (Nat.le_of_ble_eq_true rfl) dL_ending_2) (fun E M1 hq => ?_) (fun r M1 hq => ?_)
  · obtain ⟨u1, rfl, h⟩ := hq
    obtain ⟨rfl, h⟩ := h
    refine zm_catch (name := "java/util/NoSuchElementException") C [] ⟨0, 5, 6, 46⟩ [] ht (fun z hz => nomatch hz) (by decide) (by decide) wd_869 wd_877 (fun q => ?_)
    refine zm_astore_n (lv' := [(2, .ref q), (0, .ref (g.2.2.1 0)), (1, .int x1)]) C dL_ending_6 rfl (by decide) rfl ?_
    refine zm_sipush (v := -1001) C dL_ending_7 (by decide) ?_
    exact zm_iret C hr dL_ending_10 ⟨u1, rfl, h⟩
  · obtain ⟨u1, rfl, h⟩ := hq
    exact zm_iret C hr dL_ending_5 ⟨u1, rfl, h⟩
def w_R_count (x1 : Int32) (x2 : Int32) (u : MU) (Q : Int32 → MU → Prop) : Prop := w_X9_count x1 x2 u (fun r u1 => Q r u1) (fun E u1 => (E = "java/lang/IllegalArgumentException" ∧ Q (-1001 : Int32) u1))
abbrev rm_L_count : Room := { frames := 7, cells := 1, slots := 6, locals := 133 }
set_option maxHeartbeats 4000000 in
set_option maxRecDepth 100000 in
theorem c_L_count (l : Launch) (hstk : l.stackTraces = false) (g : GE) (u : MU) (W : MU × ((Nat → Int64) × (Nat → UInt64))) (x1 : Int32) (x2 : Int32) {Q : Int32 → MU → Prop} (h : w_R_count x1 x2 u Q) : Met l yL_count (.codeWith yL_count cL_count 4 (Option.some Jvm.ClassFile.FieldType.int) [((0 : Nat), (6 : Nat), (7 : Nat), (51 : Nat))] :: TB) rm_L_count (zPc g (u, W) [.ref (g.2.2.1 0), .int x1, .int x2]) (zQi g (zPx W Q)) 1 6 (zA g) := by
  unfold w_R_count at h
  refine zMetT (own := RL) [(0, .ref (g.2.2.1 0)), (1, .int x1), (2, .int x2)] (by decide +kernel) rfl (Nat.le_of_ble_eq_true rfl) rfl (fun p e s m args below meth c C hr ht => ?_)
  refine zm_aload_n C dL_count_0 rfl 0 rfl ?_
  refine zm_iload_n C dL_count_1 rfl 1 rfl ?_
  refine zm_iload_n C dL_count_2 rfl 2 rfl ?_
  refine zx_ci (zrX_V (As := [.int x1, .int x2]) (rest := []) C (c_X9_count l hstk g u W x1 x2 h) wd_965 wd_966 wd_967 wd_1 wd_968 hy_X9_count rfl rfl ⟨by decide, by decide⟩ ⟨by decide, by decide⟩ (ci := 9) (by decide) (zCell_k kd_0) rfl rfl rfl rfl (Nat.le_of_ble_eq_true rfl) dL_count_3) (fun E M1 hq => ?_) (fun r M1 hq => ?_)
  · obtain ⟨u1, rfl, h⟩ := hq
    obtain ⟨rfl, h⟩ := h
    refine zm_catch (name := "java/lang/IllegalArgumentException") C [] ⟨0, 6, 7, 51⟩ [] ht (fun z hz => nomatch hz) (by decide) (by decide) wd_542 wd_562 (fun q => ?_)
    refine zm_astore_n (lv' := [(3, .ref q), (0, .ref (g.2.2.1 0)), (1, .int x1), (2, .int x2)]) C dL_count_7 rfl (by decide) rfl ?_
    refine zm_sipush (v := -1001) C dL_count_8 (by decide) ?_
    exact zm_iret C hr dL_count_11 ⟨u1, rfl, h⟩
  · obtain ⟨u1, rfl, h⟩ := hq
    exact zm_iret C hr dL_count_6 ⟨u1, rfl, h⟩
def w_R_longest (x1 : Int32) (u : MU) (Q : Int32 → MU → Prop) : Prop := w_X9_longest x1 u (fun r u1 => Q r u1) (fun E u1 => (E = "java/util/NoSuchElementException" ∧ Q (-1001 : Int32) u1))
abbrev rm_L_longest : Room := { frames := 7, cells := 1, slots := 6, locals := 134 }
set_option maxHeartbeats 4000000 in
set_option maxRecDepth 100000 in
theorem c_L_longest (l : Launch) (hstk : l.stackTraces = false) (g : GE) (u : MU) (W : MU × ((Nat → Int64) × (Nat → UInt64))) (x1 : Int32) {Q : Int32 → MU → Prop} (h : w_R_longest x1 u Q) : Met l yL_longest (.codeWith yL_longest cL_longest 3 (Option.some Jvm.ClassFile.FieldType.int) [((0 : Nat), (5 : Nat), (6 : Nat), (46 : Nat))] :: TB) rm_L_longest (zPc g (u, W) [.ref (g.2.2.1 0), .int x1]) (zQi g (zPx W Q)) 1 6 (zA g) := by
  unfold w_R_longest at h
  refine zMetT (own := RL) [(0, .ref (g.2.2.1 0)), (1, .int x1)] (by decide +kernel) rfl (Nat.le_of_ble_eq_true rfl) rfl (fun p e s m args below meth c C hr ht => ?_)
  refine zm_aload_n C dL_longest_0 rfl 0 rfl ?_
  refine zm_iload_n C dL_longest_1 rfl 1 rfl ?_
  refine zx_ci (zrX_V (As := [.int x1]) (rest := []) C (c_X9_longest l hstk g u W x1 h) wd_1071 wd_1072 wd_1073 wd_1 wd_1074 hy_X9_longest rfl rfl ⟨by decide, by decide⟩ ⟨by decide, by decide⟩ (ci := 9) (by decide) (zCell_k kd_0) rfl rfl rfl rfl (Nat.le_of_ble_eq_true rfl) dL_longest_2) (fun E M1 hq => ?_) (fun r M1 hq => ?_)
  · obtain ⟨u1, rfl, h⟩ := hq
    obtain ⟨rfl, h⟩ := h
    refine zm_catch (name := "java/util/NoSuchElementException") C [] ⟨0, 5, 6, 46⟩ [] ht (fun z hz => nomatch hz) (by decide) (by decide) wd_869 wd_877 (fun q => ?_)
    refine zm_astore_n (lv' := [(2, .ref q), (0, .ref (g.2.2.1 0)), (1, .int x1)]) C dL_longest_6 rfl (by decide) rfl ?_
    refine zm_sipush (v := -1001) C dL_longest_7 (by decide) ?_
    exact zm_iret C hr dL_longest_10 ⟨u1, rfl, h⟩
  · obtain ⟨u1, rfl, h⟩ := hq
    exact zm_iret C hr dL_longest_5 ⟨u1, rfl, h⟩
def w_R_wonIn (x1 : Int32) (u : MU) (Q : Int32 → MU → Prop) : Prop := w_X9_wonIn x1 u (fun r u1 => Q r u1) (fun E u1 => (E = "java/lang/IllegalArgumentException" ∧ Q (-1001 : Int32) u1))
abbrev rm_L_wonIn : Room := { frames := 7, cells := 1, slots := 6, locals := 151 }
set_option maxHeartbeats 4000000 in
set_option maxRecDepth 100000 in
theorem c_L_wonIn (l : Launch) (hstk : l.stackTraces = false) (g : GE) (u : MU) (W : MU × ((Nat → Int64) × (Nat → UInt64))) (x1 : Int32) {Q : Int32 → MU → Prop} (h : w_R_wonIn x1 u Q) : Met l yL_wonIn (.codeWith yL_wonIn cL_wonIn 3 (Option.some Jvm.ClassFile.FieldType.int) [((0 : Nat), (5 : Nat), (6 : Nat), (51 : Nat))] :: TB) rm_L_wonIn (zPc g (u, W) [.ref (g.2.2.1 0), .int x1]) (zQi g (zPx W Q)) 1 6 (zA g) := by
  unfold w_R_wonIn at h
  refine zMetT (own := RL) [(0, .ref (g.2.2.1 0)), (1, .int x1)] (by decide +kernel) rfl (Nat.le_of_ble_eq_true rfl) rfl (fun p e s m args below meth c C hr ht => ?_)
  refine zm_aload_n C dL_wonIn_0 rfl 0 rfl ?_
  refine zm_iload_n C dL_wonIn_1 rfl 1 rfl ?_
  refine zx_ci (zrX_V (As := [.int x1]) (rest := []) C (c_X9_wonIn l hstk g u W x1 h) wd_1050 wd_1051 wd_1052 wd_1 wd_1053 hy_X9_wonIn rfl rfl ⟨by decide, by decide⟩ ⟨by decide, by decide⟩ (ci := 9) (by decide) (zCell_k kd_0) rfl rfl rfl rfl (Nat.le_of_ble_eq_true rfl) dL_wonIn_2) (fun E M1 hq => ?_) (fun r M1 hq => ?_)
  · obtain ⟨u1, rfl, h⟩ := hq
    obtain ⟨rfl, h⟩ := h
    refine zm_catch (name := "java/lang/IllegalArgumentException") C [] ⟨0, 5, 6, 51⟩ [] ht (fun z hz => nomatch hz) (by decide) (by decide) wd_542 wd_562 (fun q => ?_)
    refine zm_astore_n (lv' := [(2, .ref q), (0, .ref (g.2.2.1 0)), (1, .int x1)]) C dL_wonIn_6 rfl (by decide) rfl ?_
    refine zm_sipush (v := -1001) C dL_wonIn_7 (by decide) ?_
    exact zm_iret C hr dL_wonIn_10 ⟨u1, rfl, h⟩
  · obtain ⟨u1, rfl, h⟩ := hq
    exact zm_iret C hr dL_wonIn_5 ⟨u1, rfl, h⟩
def w_R_wouldChange (x1 : Int32) (x2 : Int32) (u : MU) (Q : Int32 → MU → Prop) : Prop := w_X9_wouldChange x1 x2 u (fun r u1 => Q r u1) (fun E u1 => (E = "java/lang/IndexOutOfBoundsException" ∧ Q (-1001 : Int32) u1) ∨ (E = "java/lang/IllegalArgumentException" ∧ Q (-1002 : Int32) u1))
abbrev rm_L_wouldChange : Room := { frames := 7, cells := 1, slots := 6, locals := 267 }
set_option maxHeartbeats 4000000 in
set_option maxRecDepth 100000 in
theorem c_L_wouldChange (l : Launch) (hstk : l.stackTraces = false) (g : GE) (u : MU) (W : MU × ((Nat → Int64) × (Nat → UInt64))) (x1 : Int32) (x2 : Int32) {Q : Int32 → MU → Prop} (h : w_R_wouldChange x1 x2 u Q) : Met l yL_wouldChange (.codeWith yL_wouldChange cL_wouldChange 4 (Option.some Jvm.ClassFile.FieldType.int) [((0 : Nat), (6 : Nat), (7 : Nat), (83 : Nat)), ((0 : Nat), (6 : Nat), (12 : Nat), (51 : Nat))] :: TB) rm_L_wouldChange (zPc g (u, W) [.ref (g.2.2.1 0), .int x1, .int x2]) (zQi g (zPx W Q)) 1 6 (zA g) := by
  unfold w_R_wouldChange at h
  refine zMetT (own := RL) [(0, .ref (g.2.2.1 0)), (1, .int x1), (2, .int x2)] (by decide +kernel) rfl (Nat.le_of_ble_eq_true rfl) rfl (fun p e s m args below meth c C hr ht => ?_)
  refine zm_aload_n C dL_wouldChange_0 rfl 0 rfl ?_
  refine zm_iload_n C dL_wouldChange_1 rfl 1 rfl ?_
  refine zm_iload_n C dL_wouldChange_2 rfl 2 rfl ?_
  refine zx_ci (zrX_V (As := [.int x1, .int x2]) (rest := []) C (c_X9_wouldChange l hstk g u W x1 x2 h) wd_1079 wd_1080 wd_1081 wd_1 wd_1082 hy_X9_wouldChange rfl rfl ⟨by decide, by decide⟩ ⟨by decide, by decide⟩ (ci := 9) (by decide) (zCell_k kd_0) rfl rfl rfl rfl (Nat.le_of_ble_eq_true rfl) dL_wouldChange_3) (fun E M1 hq => ?_) (fun r M1 hq => ?_)
  · obtain ⟨u1, rfl, h⟩ := hq
    rcases h with ⟨rfl, h⟩ | ⟨rfl, h⟩
    · refine zm_catch (name := "java/lang/IndexOutOfBoundsException") C [] ⟨0, 6, 7, 83⟩ [⟨0, 6, 12, 51⟩] ht (fun z hz => nomatch hz) (by decide) (by decide) wd_518 wd_549 (fun q => ?_)
      refine zm_astore_n (lv' := [(3, .ref q), (0, .ref (g.2.2.1 0)), (1, .int x1), (2, .int x2)]) C dL_wouldChange_7 rfl (by decide) rfl ?_
      refine zm_sipush (v := -1001) C dL_wouldChange_8 (by decide) ?_
      exact zm_iret C hr dL_wouldChange_11 ⟨u1, rfl, h⟩
    · refine zm_catch (name := "java/lang/IllegalArgumentException") C [⟨0, 6, 7, 83⟩] ⟨0, 6, 12, 51⟩ [] ht (fun z hz => by rw [List.mem_singleton] at hz; subst hz; exact Or.inr ⟨by decide, "java/lang/IndexOutOfBoundsException", wd_518, by decide⟩) (by decide) (by decide) wd_542 wd_562 (fun q => ?_)
      refine zm_astore_n (lv' := [(3, .ref q), (0, .ref (g.2.2.1 0)), (1, .int x1), (2, .int x2)]) C dL_wouldChange_12 rfl (by decide) rfl ?_
      refine zm_sipush (v := -1002) C dL_wouldChange_13 (by decide) ?_
      exact zm_iret C hr dL_wouldChange_16 ⟨u1, rfl, h⟩
  · obtain ⟨u1, rfl, h⟩ := hq
    exact zm_iret C hr dL_wouldChange_6 ⟨u1, rfl, h⟩
def w_R_bestBurrow (x1 : Int32) (u : MU) (Q : Int32 → MU → Prop) : Prop := w_X9_bestBurrow x1 u (fun r u1 => Q r u1) (fun E u1 => (E = "java/util/NoSuchElementException" ∧ Q (-1001 : Int32) u1))
abbrev rm_L_bestBurrow : Room := { frames := 8, cells := 2, slots := 12, locals := 136 }
set_option maxHeartbeats 4000000 in
set_option maxRecDepth 100000 in
theorem c_L_bestBurrow (l : Launch) (hstk : l.stackTraces = false) (g : GE) (u : MU) (W : MU × ((Nat → Int64) × (Nat → UInt64))) (x1 : Int32) {Q : Int32 → MU → Prop} (h : w_R_bestBurrow x1 u Q) : Met l yL_bestBurrow (.codeWith yL_bestBurrow cL_bestBurrow 3 (Option.some Jvm.ClassFile.FieldType.int) [((0 : Nat), (5 : Nat), (6 : Nat), (46 : Nat))] :: TB) rm_L_bestBurrow (zPc g (u, W) [.ref (g.2.2.1 0), .int x1]) (zQi g (zPx W Q)) 2 12 (zA g) := by
  unfold w_R_bestBurrow at h
  refine zMetT (own := RL) [(0, .ref (g.2.2.1 0)), (1, .int x1)] (by decide +kernel) rfl (Nat.le_of_ble_eq_true rfl) rfl (fun p e s m args below meth c C hr ht => ?_)
  refine zm_aload_n C dL_bestBurrow_0 rfl 0 rfl ?_
  refine zm_iload_n C dL_bestBurrow_1 rfl 1 rfl ?_
  refine zx_ci (zrX_V (As := [.int x1]) (rest := []) C (c_X9_bestBurrow l hstk g u W x1 h) wd_1032 wd_1033 wd_1034 wd_1 wd_1035 hy_X9_bestBurrow rfl rfl ⟨by decide, by decide⟩ ⟨by decide, by decide⟩ (ci := 9) (by decide) (zCell_k kd_0) rfl rfl rfl rfl (Nat.le_of_ble_eq_true rfl) dL_bestBurrow_2) (fun E M1 hq => ?_) (fun r M1 hq => ?_)
  · obtain ⟨u1, rfl, h⟩ := hq
    obtain ⟨rfl, h⟩ := h
    refine zm_catch (name := "java/util/NoSuchElementException") C [] ⟨0, 5, 6, 46⟩ [] ht (fun z hz => nomatch hz) (by decide) (by decide) wd_869 wd_877 (fun q => ?_)
    refine zm_astore_n (lv' := [(2, .ref q), (0, .ref (g.2.2.1 0)), (1, .int x1)]) C dL_bestBurrow_6 rfl (by decide) rfl ?_
    refine zm_sipush (v := -1001) C dL_bestBurrow_7 (by decide) ?_
    exact zm_iret C hr dL_bestBurrow_10 ⟨u1, rfl, h⟩
  · obtain ⟨u1, rfl, h⟩ := hq
    exact zm_iret C hr dL_bestBurrow_5 ⟨u1, rfl, h⟩
def w_R_burrowOf (x1 : Int32) (x2 : Int32) (u : MU) (Q : Int32 → MU → Prop) : Prop := w_X9_burrowOf x1 x2 u (fun r u1 => Q r u1) (fun E u1 => (E = "java/lang/IndexOutOfBoundsException" ∧ Q (-1001 : Int32) u1) ∨ (E = "java/lang/IllegalArgumentException" ∧ Q (-1002 : Int32) u1))
abbrev rm_L_burrowOf : Room := { frames := 7, cells := 1, slots := 6, locals := 153 }
set_option maxHeartbeats 4000000 in
set_option maxRecDepth 100000 in
theorem c_L_burrowOf (l : Launch) (hstk : l.stackTraces = false) (g : GE) (u : MU) (W : MU × ((Nat → Int64) × (Nat → UInt64))) (x1 : Int32) (x2 : Int32) {Q : Int32 → MU → Prop} (h : w_R_burrowOf x1 x2 u Q) : Met l yL_burrowOf (.codeWith yL_burrowOf cL_burrowOf 4 (Option.some Jvm.ClassFile.FieldType.int) [((0 : Nat), (6 : Nat), (7 : Nat), (83 : Nat)), ((0 : Nat), (6 : Nat), (12 : Nat), (51 : Nat))] :: TB) rm_L_burrowOf (zPc g (u, W) [.ref (g.2.2.1 0), .int x1, .int x2]) (zQi g (zPx W Q)) 1 6 (zA g) := by
  unfold w_R_burrowOf at h
  refine zMetT (own := RL) [(0, .ref (g.2.2.1 0)), (1, .int x1), (2, .int x2)] (by decide +kernel) rfl (Nat.le_of_ble_eq_true rfl) rfl (fun p e s m args below meth c C hr ht => ?_)
  refine zm_aload_n C dL_burrowOf_0 rfl 0 rfl ?_
  refine zm_iload_n C dL_burrowOf_1 rfl 1 rfl ?_
  refine zm_iload_n C dL_burrowOf_2 rfl 2 rfl ?_
  refine zx_ci (zrX_V (As := [.int x1, .int x2]) (rest := []) C (c_X9_burrowOf l hstk g u W x1 x2 h) wd_543 wd_544 wd_545 wd_1 wd_546 hy_X9_burrowOf rfl rfl ⟨by decide, by decide⟩ ⟨by decide, by decide⟩ (ci := 9) (by decide) (zCell_k kd_0) rfl rfl rfl rfl (Nat.le_of_ble_eq_true rfl) dL_burrowOf_3) (fun E M1 hq => ?_) (fun r M1 hq => ?_)
  · obtain ⟨u1, rfl, h⟩ := hq
    rcases h with ⟨rfl, h⟩ | ⟨rfl, h⟩
    · refine zm_catch (name := "java/lang/IndexOutOfBoundsException") C [] ⟨0, 6, 7, 83⟩ [⟨0, 6, 12, 51⟩] ht (fun z hz => nomatch hz) (by decide) (by decide) wd_518 wd_549 (fun q => ?_)
      refine zm_astore_n (lv' := [(3, .ref q), (0, .ref (g.2.2.1 0)), (1, .int x1), (2, .int x2)]) C dL_burrowOf_7 rfl (by decide) rfl ?_
      refine zm_sipush (v := -1001) C dL_burrowOf_8 (by decide) ?_
      exact zm_iret C hr dL_burrowOf_11 ⟨u1, rfl, h⟩
    · refine zm_catch (name := "java/lang/IllegalArgumentException") C [⟨0, 6, 7, 83⟩] ⟨0, 6, 12, 51⟩ [] ht (fun z hz => by rw [List.mem_singleton] at hz; subst hz; exact Or.inr ⟨by decide, "java/lang/IndexOutOfBoundsException", wd_518, by decide⟩) (by decide) (by decide) wd_542 wd_562 (fun q => ?_)
      refine zm_astore_n (lv' := [(3, .ref q), (0, .ref (g.2.2.1 0)), (1, .int x1), (2, .int x2)]) C dL_burrowOf_12 rfl (by decide) rfl ?_
      refine zm_sipush (v := -1002) C dL_burrowOf_13 (by decide) ?_
      exact zm_iret C hr dL_burrowOf_16 ⟨u1, rfl, h⟩
  · obtain ⟨u1, rfl, h⟩ := hq
    exact zm_iret C hr dL_burrowOf_6 ⟨u1, rfl, h⟩
def w_R_pathOf (x1 : Int32) (x2 : Int32) (u : MU) (Q : Int32 → MU → Prop) : Prop := w_X9_pathOf x1 x2 u (fun r u1 => Q r u1) (fun E u1 => (E = "java/lang/IndexOutOfBoundsException" ∧ Q (-1001 : Int32) u1))
abbrev rm_L_pathOf : Room := { frames := 7, cells := 1, slots := 6, locals := 112 }
set_option maxHeartbeats 4000000 in
set_option maxRecDepth 100000 in
theorem c_L_pathOf (l : Launch) (hstk : l.stackTraces = false) (g : GE) (u : MU) (W : MU × ((Nat → Int64) × (Nat → UInt64))) (x1 : Int32) (x2 : Int32) {Q : Int32 → MU → Prop} (h : w_R_pathOf x1 x2 u Q) : Met l yL_pathOf (.codeWith yL_pathOf cL_pathOf 4 (Option.some Jvm.ClassFile.FieldType.int) [((0 : Nat), (6 : Nat), (7 : Nat), (83 : Nat))] :: TB) rm_L_pathOf (zPc g (u, W) [.ref (g.2.2.1 0), .int x1, .int x2]) (zQi g (zPx W Q)) 1 6 (zA g) := by
  unfold w_R_pathOf at h
  refine zMetT (own := RL) [(0, .ref (g.2.2.1 0)), (1, .int x1), (2, .int x2)] (by decide +kernel) rfl (Nat.le_of_ble_eq_true rfl) rfl (fun p e s m args below meth c C hr ht => ?_)
  refine zm_aload_n C dL_pathOf_0 rfl 0 rfl ?_
  refine zm_iload_n C dL_pathOf_1 rfl 1 rfl ?_
  refine zm_iload_n C dL_pathOf_2 rfl 2 rfl ?_
  refine zx_ci (zrX_V (As := [.int x1, .int x2]) (rest := []) C (c_X9_pathOf l hstk g u W x1 x2 h) wd_699 wd_700 wd_701 wd_1 wd_702 hy_X9_pathOf rfl rfl ⟨by decide, by decide⟩ ⟨by decide, by decide⟩ (ci := 9) (by decide) (zCell_k kd_0) rfl rfl rfl rfl (Nat.le_of_ble_eq_true rfl) dL_pathOf_3) (fun E M1 hq => ?_) (fun r M1 hq => ?_)
  · obtain ⟨u1, rfl, h⟩ := hq
    obtain ⟨rfl, h⟩ := h
    refine zm_catch (name := "java/lang/IndexOutOfBoundsException") C [] ⟨0, 6, 7, 83⟩ [] ht (fun z hz => nomatch hz) (by decide) (by decide) wd_518 wd_549 (fun q => ?_)
    refine zm_astore_n (lv' := [(3, .ref q), (0, .ref (g.2.2.1 0)), (1, .int x1), (2, .int x2)]) C dL_pathOf_7 rfl (by decide) rfl ?_
    refine zm_sipush (v := -1001) C dL_pathOf_8 (by decide) ?_
    exact zm_iret C hr dL_pathOf_11 ⟨u1, rfl, h⟩
  · obtain ⟨u1, rfl, h⟩ := hq
    exact zm_iret C hr dL_pathOf_6 ⟨u1, rfl, h⟩
def w_R_now (u : MU) (Q : Int32 → MU → Prop) : Prop := w_X9_now  u (fun r u1 => Q r u1) (fun E u1 => (E = "java/util/NoSuchElementException" ∧ Q (-1001 : Int32) u1))
abbrev rm_L_now : Room := { frames := 7, cells := 1, slots := 6, locals := 110 }
set_option maxHeartbeats 4000000 in
set_option maxRecDepth 100000 in
theorem c_L_now (l : Launch) (hstk : l.stackTraces = false) (g : GE) (u : MU) (W : MU × ((Nat → Int64) × (Nat → UInt64))) {Q : Int32 → MU → Prop} (h : w_R_now  u Q) : Met l yL_now (.codeWith yL_now cL_now 2 (Option.some Jvm.ClassFile.FieldType.int) [((0 : Nat), (4 : Nat), (5 : Nat), (46 : Nat))] :: TB) rm_L_now (zPc g (u, W) [.ref (g.2.2.1 0)]) (zQi g (zPx W Q)) 1 6 (zA g) := by
  unfold w_R_now at h
  refine zMetT (own := RL) [(0, .ref (g.2.2.1 0))] (by decide +kernel) rfl (Nat.le_of_ble_eq_true rfl) rfl (fun p e s m args below meth c C hr ht => ?_)
  refine zm_aload_n C dL_now_0 rfl 0 rfl ?_
  refine zx_ci (zrX_V (As := []) (rest := []) C (c_X9_now l hstk g u W  h) wd_1089 wd_1090 wd_1091 wd_1 wd_1092 hy_X9_now rfl rfl ⟨by decide, by decide⟩ ⟨by decide, by decide⟩ (ci := 9) (by decide) (zCell_k kd_0) rfl rfl rfl rfl (Nat.le_of_ble_eq_true rfl) dL_now_1) (fun E M1 hq => ?_) (fun r M1 hq => ?_)
  · obtain ⟨u1, rfl, h⟩ := hq
    obtain ⟨rfl, h⟩ := h
    refine zm_catch (name := "java/util/NoSuchElementException") C [] ⟨0, 4, 5, 46⟩ [] ht (fun z hz => nomatch hz) (by decide) (by decide) wd_869 wd_877 (fun q => ?_)
    refine zm_astore_n (lv' := [(1, .ref q), (0, .ref (g.2.2.1 0))]) C dL_now_5 rfl (by decide) rfl ?_
    refine zm_sipush (v := -1001) C dL_now_6 (by decide) ?_
    exact zm_iret C hr dL_now_9 ⟨u1, rfl, h⟩
  · obtain ⟨u1, rfl, h⟩ := hq
    exact zm_iret C hr dL_now_4 ⟨u1, rfl, h⟩
def w_R_append (x1 : Int32) (u : MU) (Q : Int32 → MU → Prop) : Prop := w_X9_append x1 u (fun r u1 => Q r u1) (fun E u1 => (E = "java/lang/IllegalStateException" ∧ Q (-1001 : Int32) u1))
abbrev rm_L_append : Room := { frames := 7, cells := 1, slots := 6, locals := 111 }
set_option maxHeartbeats 4000000 in
set_option maxRecDepth 100000 in
theorem c_L_append (l : Launch) (hstk : l.stackTraces = false) (g : GE) (u : MU) (W : MU × ((Nat → Int64) × (Nat → UInt64))) (x1 : Int32) {Q : Int32 → MU → Prop} (h : w_R_append x1 u Q) : Met l yL_append (.codeWith yL_append cL_append 3 (Option.some Jvm.ClassFile.FieldType.int) [((0 : Nat), (5 : Nat), (6 : Nat), (101 : Nat))] :: TB) rm_L_append (zPc g (u, W) [.ref (g.2.2.1 0), .int x1]) (zQi g (zPx W Q)) 1 6 (zA g) := by
  unfold w_R_append at h
  refine zMetT (own := RL) [(0, .ref (g.2.2.1 0)), (1, .int x1)] (by decide +kernel) rfl (Nat.le_of_ble_eq_true rfl) rfl (fun p e s m args below meth c C hr ht => ?_)
  refine zm_aload_n C dL_append_0 rfl 0 rfl ?_
  refine zm_iload_n C dL_append_1 rfl 1 rfl ?_
  refine zx_ci (zrX_V (As := [.int x1]) (rest := []) C (c_X9_append l hstk g u W x1 h) wd_708 wd_709 wd_710 wd_1 wd_711 hy_X9_append rfl rfl ⟨by decide, by decide⟩ ⟨by decide, by decide⟩ (ci := 9) (by decide) (zCell_k kd_0) rfl rfl rfl rfl (Nat.le_of_ble_eq_true rfl) dL_append_2) (fun E M1 hq => ?_) (fun r M1 hq => ?_)
  · obtain ⟨u1, rfl, h⟩ := hq
    obtain ⟨rfl, h⟩ := h
    refine zm_catch (name := "java/lang/IllegalStateException") C [] ⟨0, 5, 6, 101⟩ [] ht (fun z hz => nomatch hz) (by decide) (by decide) wd_707 wd_714 (fun q => ?_)
    refine zm_astore_n (lv' := [(2, .ref q), (0, .ref (g.2.2.1 0)), (1, .int x1)]) C dL_append_6 rfl (by decide) rfl ?_
    refine zm_sipush (v := -1001) C dL_append_7 (by decide) ?_
    exact zm_iret C hr dL_append_10 ⟨u1, rfl, h⟩
  · obtain ⟨u1, rfl, h⟩ := hq
    exact zm_iret C hr dL_append_5 ⟨u1, rfl, h⟩
def w_R_commands (u : MU) (Q : Int32 → MU → Prop) : Prop := w_X9_commands  u (fun r u1 => Q r u1) (fun E u1 => (E = "java/lang/IllegalArgumentException" ∧ Q (-1001 : Int32) u1) ∨ (E = "java/lang/UnsupportedOperationException" ∧ Q (-1002 : Int32) u1))
abbrev rm_L_commands : Room := { frames := 8, cells := 1, slots := 6, locals := 328 }
set_option maxHeartbeats 4000000 in
set_option maxRecDepth 100000 in
theorem c_L_commands (l : Launch) (hstk : l.stackTraces = false) (g : GE) (u : MU) (W : MU × ((Nat → Int64) × (Nat → UInt64))) {Q : Int32 → MU → Prop} (h : w_R_commands  u Q) : Met l yL_commands (.codeWith yL_commands cL_commands 2 (Option.some Jvm.ClassFile.FieldType.int) [((0 : Nat), (4 : Nat), (5 : Nat), (51 : Nat)), ((0 : Nat), (4 : Nat), (10 : Nat), (13 : Nat))] :: TB) rm_L_commands (zPc g (u, W) [.ref (g.2.2.1 0)]) (zQi g (zPx W Q)) 1 6 (zA g) := by
  unfold w_R_commands at h
  refine zMetT (own := RL) [(0, .ref (g.2.2.1 0))] (by decide +kernel) rfl (Nat.le_of_ble_eq_true rfl) rfl (fun p e s m args below meth c C hr ht => ?_)
  refine zm_aload_n C dL_commands_0 rfl 0 rfl ?_
  refine zx_ci (zrX_V (As := []) (rest := []) C (c_X9_commands l hstk g u W  h) wd_735 wd_736 wd_737 wd_1 wd_738 hy_X9_commands rfl rfl ⟨by decide, by decide⟩ ⟨by decide, by decide⟩ (ci := 9) (by decide) (zCell_k kd_0) rfl rfl rfl rfl (Nat.le_of_ble_eq_true rfl) dL_commands_1) (fun E M1 hq => ?_) (fun r M1 hq => ?_)
  · obtain ⟨u1, rfl, h⟩ := hq
    rcases h with ⟨rfl, h⟩ | ⟨rfl, h⟩
    · refine zm_catch (name := "java/lang/IllegalArgumentException") C [] ⟨0, 4, 5, 51⟩ [⟨0, 4, 10, 13⟩] ht (fun z hz => nomatch hz) (by decide) (by decide) wd_542 wd_562 (fun q => ?_)
      refine zm_astore_n (lv' := [(1, .ref q), (0, .ref (g.2.2.1 0))]) C dL_commands_5 rfl (by decide) rfl ?_
      refine zm_sipush (v := -1001) C dL_commands_6 (by decide) ?_
      exact zm_iret C hr dL_commands_9 ⟨u1, rfl, h⟩
    · refine zm_catch (name := "java/lang/UnsupportedOperationException") C [⟨0, 4, 5, 51⟩] ⟨0, 4, 10, 13⟩ [] ht (fun z hz => by rw [List.mem_singleton] at hz; subst hz; exact Or.inr ⟨by decide, "java/lang/IllegalArgumentException", wd_542, by decide⟩) (by decide) (by decide) wd_338 wd_369 (fun q => ?_)
      refine zm_astore_n (lv' := [(1, .ref q), (0, .ref (g.2.2.1 0))]) C dL_commands_10 rfl (by decide) rfl ?_
      refine zm_sipush (v := -1002) C dL_commands_11 (by decide) ?_
      exact zm_iret C hr dL_commands_14 ⟨u1, rfl, h⟩
  · obtain ⟨u1, rfl, h⟩ := hq
    exact zm_iret C hr dL_commands_4 ⟨u1, rfl, h⟩
def w_R_reason (x1 : Int32) (u : MU) (Q : Int32 → MU → Prop) : Prop := w_X9_reason x1 u (fun r u1 => Q r u1) (fun E u1 => (E = "java/lang/IllegalArgumentException" ∧ Q (-1001 : Int32) u1) ∨ (E = "java/util/NoSuchElementException" ∧ Q (-1002 : Int32) u1))
abbrev rm_L_reason : Room := { frames := 7, cells := 1, slots := 6, locals := 111 }
set_option maxHeartbeats 4000000 in
set_option maxRecDepth 100000 in
theorem c_L_reason (l : Launch) (hstk : l.stackTraces = false) (g : GE) (u : MU) (W : MU × ((Nat → Int64) × (Nat → UInt64))) (x1 : Int32) {Q : Int32 → MU → Prop} (h : w_R_reason x1 u Q) : Met l yL_reason (.codeWith yL_reason cL_reason 3 (Option.some Jvm.ClassFile.FieldType.int) [((0 : Nat), (5 : Nat), (6 : Nat), (51 : Nat)), ((0 : Nat), (5 : Nat), (11 : Nat), (46 : Nat))] :: TB) rm_L_reason (zPc g (u, W) [.ref (g.2.2.1 0), .int x1]) (zQi g (zPx W Q)) 1 6 (zA g) := by
  unfold w_R_reason at h
  refine zMetT (own := RL) [(0, .ref (g.2.2.1 0)), (1, .int x1)] (by decide +kernel) rfl (Nat.le_of_ble_eq_true rfl) rfl (fun p e s m args below meth c C hr ht => ?_)
  refine zm_aload_n C dL_reason_0 rfl 0 rfl ?_
  refine zm_iload_n C dL_reason_1 rfl 1 rfl ?_
  refine zx_ci (zrX_V (As := [.int x1]) (rest := []) C (c_X9_reason l hstk g u W x1 h) wd_870 wd_871 wd_872 wd_1 wd_873 hy_X9_reason rfl rfl ⟨by decide, by decide⟩ ⟨by decide, by decide⟩ (ci := 9) (by decide) (zCell_k kd_0) rfl rfl rfl rfl (Nat.le_of_ble_eq_true rfl) dL_reason_2) (fun E M1 hq => ?_) (fun r M1 hq => ?_)
  · obtain ⟨u1, rfl, h⟩ := hq
    rcases h with ⟨rfl, h⟩ | ⟨rfl, h⟩
    · refine zm_catch (name := "java/lang/IllegalArgumentException") C [] ⟨0, 5, 6, 51⟩ [⟨0, 5, 11, 46⟩] ht (fun z hz => nomatch hz) (by decide) (by decide) wd_542 wd_562 (fun q => ?_)
      refine zm_astore_n (lv' := [(2, .ref q), (0, .ref (g.2.2.1 0)), (1, .int x1)]) C dL_reason_6 rfl (by decide) rfl ?_
      refine zm_sipush (v := -1001) C dL_reason_7 (by decide) ?_
      exact zm_iret C hr dL_reason_10 ⟨u1, rfl, h⟩
    · refine zm_catch (name := "java/util/NoSuchElementException") C [⟨0, 5, 6, 51⟩] ⟨0, 5, 11, 46⟩ [] ht (fun z hz => by rw [List.mem_singleton] at hz; subst hz; exact Or.inr ⟨by decide, "java/lang/IllegalArgumentException", wd_542, by decide⟩) (by decide) (by decide) wd_869 wd_877 (fun q => ?_)
      refine zm_astore_n (lv' := [(2, .ref q), (0, .ref (g.2.2.1 0)), (1, .int x1)]) C dL_reason_11 rfl (by decide) rfl ?_
      refine zm_sipush (v := -1002) C dL_reason_12 (by decide) ?_
      exact zm_iret C hr dL_reason_15 ⟨u1, rfl, h⟩
  · obtain ⟨u1, rfl, h⟩ := hq
    exact zm_iret C hr dL_reason_5 ⟨u1, rfl, h⟩
def w_R_character (x1 : Int32) (u : MU) (Q : Int32 → MU → Prop) : Prop := w_X9_character x1 u (fun r u1 => Q r u1) (fun E u1 => (E = "java/lang/IndexOutOfBoundsException" ∧ Q (-1001 : Int32) u1))
abbrev rm_L_character : Room := { frames := 7, cells := 1, slots := 6, locals := 111 }
set_option maxHeartbeats 4000000 in
set_option maxRecDepth 100000 in
theorem c_L_character (l : Launch) (hstk : l.stackTraces = false) (g : GE) (u : MU) (W : MU × ((Nat → Int64) × (Nat → UInt64))) (x1 : Int32) {Q : Int32 → MU → Prop} (h : w_R_character x1 u Q) : Met l yL_character (.codeWith yL_character cL_character 3 (Option.some Jvm.ClassFile.FieldType.int) [((0 : Nat), (5 : Nat), (6 : Nat), (83 : Nat))] :: TB) rm_L_character (zPc g (u, W) [.ref (g.2.2.1 0), .int x1]) (zQi g (zPx W Q)) 1 6 (zA g) := by
  unfold w_R_character at h
  refine zMetT (own := RL) [(0, .ref (g.2.2.1 0)), (1, .int x1)] (by decide +kernel) rfl (Nat.le_of_ble_eq_true rfl) rfl (fun p e s m args below meth c C hr ht => ?_)
  refine zm_aload_n C dL_character_0 rfl 0 rfl ?_
  refine zm_iload_n C dL_character_1 rfl 1 rfl ?_
  refine zx_ci (zrX_V (As := [.int x1]) (rest := []) C (c_X9_character l hstk g u W x1 h) wd_1062 wd_1063 wd_1064 wd_1 wd_1065 hy_X9_character rfl rfl ⟨by decide, by decide⟩ ⟨by decide, by decide⟩ (ci := 9) (by decide) (zCell_k kd_0) rfl rfl rfl rfl (Nat.le_of_ble_eq_true rfl) dL_character_2) (fun E M1 hq => ?_) (fun r M1 hq => ?_)
  · obtain ⟨u1, rfl, h⟩ := hq
    obtain ⟨rfl, h⟩ := h
    refine zm_catch (name := "java/lang/IndexOutOfBoundsException") C [] ⟨0, 5, 6, 83⟩ [] ht (fun z hz => nomatch hz) (by decide) (by decide) wd_518 wd_549 (fun q => ?_)
    refine zm_astore_n (lv' := [(2, .ref q), (0, .ref (g.2.2.1 0)), (1, .int x1)]) C dL_character_6 rfl (by decide) rfl ?_
    refine zm_sipush (v := -1001) C dL_character_7 (by decide) ?_
    exact zm_iret C hr dL_character_10 ⟨u1, rfl, h⟩
  · obtain ⟨u1, rfl, h⟩ := hq
    exact zm_iret C hr dL_character_5 ⟨u1, rfl, h⟩
def w_R_meanMoves (u : MU) (Q : UInt64 → MU → Prop) : Prop := w_X9_meanMoves  u (fun r u1 => Q r u1) (fun E u1 => (E = "java/lang/ArithmeticException" ∧ Q (13875388141788987392 : UInt64) u1))
abbrev rm_L_meanMoves : Room := { frames := 7, cells := 1, slots := 6, locals := 131 }
set_option maxHeartbeats 4000000 in
set_option maxRecDepth 100000 in
theorem c_L_meanMoves (l : Launch) (hstk : l.stackTraces = false) (g : GE) (u : MU) (W : MU × ((Nat → Int64) × (Nat → UInt64))) {Q : UInt64 → MU → Prop} (h : w_R_meanMoves  u Q) : Met l yL_meanMoves (.codeWith yL_meanMoves cL_meanMoves 2 (Option.some Jvm.ClassFile.FieldType.double) [((0 : Nat), (4 : Nat), (5 : Nat), (117 : Nat))] :: TB) rm_L_meanMoves (zPc g (u, W) [.ref (g.2.2.1 0)]) (zQd g (zPx W Q)) 1 6 (zA g) := by
  unfold w_R_meanMoves at h
  refine zMetT (own := RL) [(0, .ref (g.2.2.1 0))] (by decide +kernel) rfl (Nat.le_of_ble_eq_true rfl) rfl (fun p e s m args below meth c C hr ht => ?_)
  refine zm_aload_n C dL_meanMoves_0 rfl 0 rfl ?_
  refine zx_cd (zrX_V (As := []) (rest := []) C (c_X9_meanMoves l hstk g u W  h) wd_925 wd_926 wd_927 wd_1 wd_928 hy_X9_meanMoves rfl rfl ⟨by decide, by decide⟩ ⟨by decide, by decide⟩ (ci := 9) (by decide) (zCell_k kd_0) rfl rfl rfl rfl (Nat.le_of_ble_eq_true rfl) dL_meanMoves_1) (fun E M1 hq => ?_) (fun r M1 hq => ?_)
  · obtain ⟨u1, rfl, h⟩ := hq
    obtain ⟨rfl, h⟩ := h
    refine zm_catch (name := "java/lang/ArithmeticException") C [] ⟨0, 4, 5, 117⟩ [] ht (fun z hz => nomatch hz) (by decide) (by decide) wd_911 wd_923 (fun q => ?_)
    refine zm_astore_n (lv' := [(1, .ref q), (0, .ref (g.2.2.1 0))]) C dL_meanMoves_5 rfl (by decide) rfl ?_
    refine zm_ldc2D (v := (13875388141788987392 : UInt64)) C wd_932 dL_meanMoves_6 ?_
    exact zm_dret C hr dL_meanMoves_9 ⟨u1, rfl, h⟩
  · obtain ⟨u1, rfl, h⟩ := hq
    exact zm_dret C hr dL_meanMoves_4 ⟨u1, rfl, h⟩
def w_R_drawn (u : MU) (Q : UInt32 → MU → Prop) : Prop := w_X9_drawn  u (fun r u1 => Q r u1) (fun E u1 => (E = "java/lang/ArithmeticException" ∧ Q (3296346112 : UInt32) u1))
abbrev rm_L_drawn : Room := { frames := 7, cells := 1, slots := 6, locals := 150 }
set_option maxHeartbeats 4000000 in
set_option maxRecDepth 100000 in
theorem c_L_drawn (l : Launch) (hstk : l.stackTraces = false) (g : GE) (u : MU) (W : MU × ((Nat → Int64) × (Nat → UInt64))) {Q : UInt32 → MU → Prop} (h : w_R_drawn  u Q) : Met l yL_drawn (.codeWith yL_drawn cL_drawn 2 (Option.some Jvm.ClassFile.FieldType.float) [((0 : Nat), (4 : Nat), (5 : Nat), (117 : Nat))] :: TB) rm_L_drawn (zPc g (u, W) [.ref (g.2.2.1 0)]) (zQf g (zPx W Q)) 1 6 (zA g) := by
  unfold w_R_drawn at h
  refine zMetT (own := RL) [(0, .ref (g.2.2.1 0))] (by decide +kernel) rfl (Nat.le_of_ble_eq_true rfl) rfl (fun p e s m args below meth c C hr ht => ?_)
  refine zm_aload_n C dL_drawn_0 rfl 0 rfl ?_
  refine zx_cf (zrX_V (As := []) (rest := []) C (c_X9_drawn l hstk g u W  h) wd_946 wd_947 wd_948 wd_1 wd_949 hy_X9_drawn rfl rfl ⟨by decide, by decide⟩ ⟨by decide, by decide⟩ (ci := 9) (by decide) (zCell_k kd_0) rfl rfl rfl rfl (Nat.le_of_ble_eq_true rfl) dL_drawn_1) (fun E M1 hq => ?_) (fun r M1 hq => ?_)
  · obtain ⟨u1, rfl, h⟩ := hq
    obtain ⟨rfl, h⟩ := h
    refine zm_catch (name := "java/lang/ArithmeticException") C [] ⟨0, 4, 5, 117⟩ [] ht (fun z hz => nomatch hz) (by decide) (by decide) wd_911 wd_923 (fun q => ?_)
    refine zm_astore_n (lv' := [(1, .ref q), (0, .ref (g.2.2.1 0))]) C dL_drawn_5 rfl (by decide) rfl ?_
    refine zm_ldcF (v := (3296346112 : UInt32)) C wd_951 dL_drawn_6 ?_
    exact zm_fret C hr dL_drawn_8 ⟨u1, rfl, h⟩
  · obtain ⟨u1, rfl, h⟩ := hq
    exact zm_fret C hr dL_drawn_4 ⟨u1, rfl, h⟩
def w_R_account (x1 : Int32) (u : MU) (Q : Int32 → MU → Prop) : Prop := w_X9_account x1 u (fun r u1 => Q r u1) (fun E u1 => (E = "java/lang/IllegalArgumentException" ∧ Q (-1001 : Int32) u1))
abbrev rm_L_account : Room := { frames := 7, cells := 1, slots := 6, locals := 174 }
set_option maxHeartbeats 4000000 in
set_option maxRecDepth 100000 in
theorem c_L_account (l : Launch) (hstk : l.stackTraces = false) (g : GE) (u : MU) (W : MU × ((Nat → Int64) × (Nat → UInt64))) (x1 : Int32) {Q : Int32 → MU → Prop} (h : w_R_account x1 u Q) : Met l yL_account (.codeWith yL_account cL_account 3 (Option.some Jvm.ClassFile.FieldType.int) [((0 : Nat), (5 : Nat), (6 : Nat), (51 : Nat))] :: TB) rm_L_account (zPc g (u, W) [.ref (g.2.2.1 0), .int x1]) (zQi g (zPx W Q)) 1 6 (zA g) := by
  unfold w_R_account at h
  refine zMetT (own := RL) [(0, .ref (g.2.2.1 0)), (1, .int x1)] (by decide +kernel) rfl (Nat.le_of_ble_eq_true rfl) rfl (fun p e s m args below meth c C hr ht => ?_)
  refine zm_aload_n C dL_account_0 rfl 0 rfl ?_
  refine zm_iload_n C dL_account_1 rfl 1 rfl ?_
  refine zx_ci (zrX_V (As := [.int x1]) (rest := []) C (c_X9_account l hstk g u W x1 h) wd_826 wd_827 wd_828 wd_1 wd_829 hy_X9_account rfl rfl ⟨by decide, by decide⟩ ⟨by decide, by decide⟩ (ci := 9) (by decide) (zCell_k kd_0) rfl rfl rfl rfl (Nat.le_of_ble_eq_true rfl) dL_account_2) (fun E M1 hq => ?_) (fun r M1 hq => ?_)
  · obtain ⟨u1, rfl, h⟩ := hq
    obtain ⟨rfl, h⟩ := h
    refine zm_catch (name := "java/lang/IllegalArgumentException") C [] ⟨0, 5, 6, 51⟩ [] ht (fun z hz => nomatch hz) (by decide) (by decide) wd_542 wd_562 (fun q => ?_)
    refine zm_astore_n (lv' := [(2, .ref q), (0, .ref (g.2.2.1 0)), (1, .int x1)]) C dL_account_6 rfl (by decide) rfl ?_
    refine zm_sipush (v := -1001) C dL_account_7 (by decide) ?_
    exact zm_iret C hr dL_account_10 ⟨u1, rfl, h⟩
  · obtain ⟨u1, rfl, h⟩ := hq
    exact zm_iret C hr dL_account_5 ⟨u1, rfl, h⟩
def w_R_undo (u : MU) (Q : Int32 → MU → Prop) : Prop := w_X9_undo  u (fun r u1 => Q r u1) (fun E u1 => (E = "java/lang/IllegalStateException" ∧ Q (-1001 : Int32) u1))
abbrev rm_L_undo : Room := { frames := 7, cells := 1, slots := 6, locals := 306 }
set_option maxHeartbeats 4000000 in
set_option maxRecDepth 100000 in
theorem c_L_undo (l : Launch) (hstk : l.stackTraces = false) (g : GE) (u : MU) (W : MU × ((Nat → Int64) × (Nat → UInt64))) {Q : Int32 → MU → Prop} (h : w_R_undo  u Q) : Met l yL_undo (.codeWith yL_undo cL_undo 2 (Option.some Jvm.ClassFile.FieldType.int) [((0 : Nat), (4 : Nat), (5 : Nat), (101 : Nat))] :: TB) rm_L_undo (zPc g (u, W) [.ref (g.2.2.1 0)]) (zQi g (zPx W Q)) 1 6 (zA g) := by
  unfold w_R_undo at h
  refine zMetT (own := RL) [(0, .ref (g.2.2.1 0))] (by decide +kernel) rfl (Nat.le_of_ble_eq_true rfl) rfl (fun p e s m args below meth c C hr ht => ?_)
  refine zm_aload_n C dL_undo_0 rfl 0 rfl ?_
  refine zx_ci (zrX_V (As := []) (rest := []) C (c_X9_undo l hstk g u W  h) wd_846 wd_847 wd_848 wd_1 wd_849 hy_X9_undo rfl rfl ⟨by decide, by decide⟩ ⟨by decide, by decide⟩ (ci := 9) (by decide) (zCell_k kd_0) rfl rfl rfl rfl (Nat.le_of_ble_eq_true rfl) dL_undo_1) (fun E M1 hq => ?_) (fun r M1 hq => ?_)
  · obtain ⟨u1, rfl, h⟩ := hq
    obtain ⟨rfl, h⟩ := h
    refine zm_catch (name := "java/lang/IllegalStateException") C [] ⟨0, 4, 5, 101⟩ [] ht (fun z hz => nomatch hz) (by decide) (by decide) wd_707 wd_714 (fun q => ?_)
    refine zm_astore_n (lv' := [(1, .ref q), (0, .ref (g.2.2.1 0))]) C dL_undo_5 rfl (by decide) rfl ?_
    refine zm_sipush (v := -1001) C dL_undo_6 (by decide) ?_
    exact zm_iret C hr dL_undo_9 ⟨u1, rfl, h⟩
  · obtain ⟨u1, rfl, h⟩ := hq
    exact zm_iret C hr dL_undo_4 ⟨u1, rfl, h⟩
def w_R_restore (u : MU) (Q : Int32 → MU → Prop) : Prop := w_X9_restore  u (fun r u1 => Q r u1) (fun E u1 => (E = "java/lang/IllegalStateException" ∧ Q (-1001 : Int32) u1))
abbrev rm_L_restore : Room := { frames := 7, cells := 1, slots := 6, locals := 283 }
set_option maxHeartbeats 4000000 in
set_option maxRecDepth 100000 in
theorem c_L_restore (l : Launch) (hstk : l.stackTraces = false) (g : GE) (u : MU) (W : MU × ((Nat → Int64) × (Nat → UInt64))) {Q : Int32 → MU → Prop} (h : w_R_restore  u Q) : Met l yL_restore (.codeWith yL_restore cL_restore 2 (Option.some Jvm.ClassFile.FieldType.int) [((0 : Nat), (4 : Nat), (5 : Nat), (101 : Nat))] :: TB) rm_L_restore (zPc g (u, W) [.ref (g.2.2.1 0)]) (zQi g (zPx W Q)) 1 6 (zA g) := by
  unfold w_R_restore at h
  refine zMetT (own := RL) [(0, .ref (g.2.2.1 0))] (by decide +kernel) rfl (Nat.le_of_ble_eq_true rfl) rfl (fun p e s m args below meth c C hr ht => ?_)
  refine zm_aload_n C dL_restore_0 rfl 0 rfl ?_
  refine zx_ci (zrX_V (As := []) (rest := []) C (c_X9_restore l hstk g u W  h) wd_858 wd_859 wd_860 wd_1 wd_861 hy_X9_restore rfl rfl ⟨by decide, by decide⟩ ⟨by decide, by decide⟩ (ci := 9) (by decide) (zCell_k kd_0) rfl rfl rfl rfl (Nat.le_of_ble_eq_true rfl) dL_restore_1) (fun E M1 hq => ?_) (fun r M1 hq => ?_)
  · obtain ⟨u1, rfl, h⟩ := hq
    obtain ⟨rfl, h⟩ := h
    refine zm_catch (name := "java/lang/IllegalStateException") C [] ⟨0, 4, 5, 101⟩ [] ht (fun z hz => nomatch hz) (by decide) (by decide) wd_707 wd_714 (fun q => ?_)
    refine zm_astore_n (lv' := [(1, .ref q), (0, .ref (g.2.2.1 0))]) C dL_restore_5 rfl (by decide) rfl ?_
    refine zm_sipush (v := -1001) C dL_restore_6 (by decide) ?_
    exact zm_iret C hr dL_restore_9 ⟨u1, rfl, h⟩
  · obtain ⟨u1, rfl, h⟩ := hq
    exact zm_iret C hr dL_restore_4 ⟨u1, rfl, h⟩
abbrev rm_Jxe99ae_isNaN_b9ae7 : Room := { frames := 0, cells := 0, slots := 0, locals := 0 }
def w_Jxe99ae_isNaN_b9ae7 (x0 : UInt64) (Q : Int32 → Prop) : Prop := (((Op.cmpValue (FP.dcmp x0 x0) .l) = 0) → Q (0 : Int32)) ∧ ((¬ (Op.cmpValue (FP.dcmp x0 x0) .l) = 0) → Q (1 : Int32))
set_option maxHeartbeats 4000000 in
set_option maxRecDepth 100000 in
theorem c_Jxe99ae_isNaN_b9ae7 (l : Launch) (g : GE) (M : Mem) (x0 : UInt64) {Q : Int32 → Prop} (h : w_Jxe99ae_isNaN_b9ae7 x0 Q) : Met l yJxe99ae_isNaN_b9ae7 (.code yJxe99ae_isNaN_b9ae7 cJxe99ae_isNaN_b9ae7 2 (Option.some Jvm.ClassFile.FieldType.boolean) :: TB) rm_Jxe99ae_isNaN_b9ae7 (zPc g M [.double x0]) (zQi g (zP0 M Q)) 0 0 (zA g) := by
  unfold w_Jxe99ae_isNaN_b9ae7 at h
  refine zMet (own := RJxe99ae) [(0, .double x0)] (by decide +kernel) rfl (Nat.le_of_ble_eq_true rfl) rfl (fun p e s m args below meth c C hr => ?_)
  refine zm_dload_n C dJxe99ae_isNaN_b9ae7_0 rfl 0 rfl ?_
  refine zm_dload_n C dJxe99ae_isNaN_b9ae7_1 rfl 0 rfl ?_
  refine zm_dcmp C dJxe99ae_isNaN_b9ae7_2 ?_
  refine zm_if_eq (tgt := 10) C dJxe99ae_isNaN_b9ae7_3 (by decide) (fun hc_1 => ?_) (fun hc_1 => ?_)
  · have h := h.1 hc_1
    refine zm_iconst (v := 0) C dJxe99ae_isNaN_b9ae7_10 (by decide) ?_
    refine zm_widen (k1 := 0) (n1 := 0) (by omega) (by omega) ?_
    exact zm_zret (ty := .boolean) C hr (by decide) dJxe99ae_isNaN_b9ae7_11 ⟨rfl, h⟩
  · have h := h.2 hc_1
    refine zm_iconst (v := 1) C dJxe99ae_isNaN_b9ae7_6 (by decide) ?_
    refine zm_goto (tgt := 11) C dJxe99ae_isNaN_b9ae7_7 (by decide) ?_
    refine zm_widen (k1 := 0) (n1 := 0) (by omega) (by omega) ?_
    exact zm_zret (ty := .boolean) C hr (by decide) dJxe99ae_isNaN_b9ae7_11 ⟨rfl, h⟩
abbrev rm_Jxe99ae_doubleToLongBits_ccdee : Room := { frames := 1, cells := 0, slots := 0, locals := 40 }
def w_Jxe99ae_doubleToLongBits_ccdee (x0 : UInt64) (Q : Int64 → Prop) : Prop := w_Jxe99ae_isNaN_b9ae7 x0 (fun r_1 => ((¬ r_1 = 0) → Q (9221120237041090560 : Int64)) ∧ ((r_1 = 0) → Q (x0.toInt64)))
set_option maxHeartbeats 4000000 in
set_option maxRecDepth 100000 in
theorem c_Jxe99ae_doubleToLongBits_ccdee (l : Launch) (g : GE) (M : Mem) (x0 : UInt64) {Q : Int64 → Prop} (h : w_Jxe99ae_doubleToLongBits_ccdee x0 Q) : Met l yJxe99ae_doubleToLongBits_ccdee (.code yJxe99ae_doubleToLongBits_ccdee cJxe99ae_doubleToLongBits_ccdee 2 (Option.some Jvm.ClassFile.FieldType.long) :: TB) rm_Jxe99ae_doubleToLongBits_ccdee (zPc g M [.double x0]) (zQl g (zP0 M Q)) 0 0 (zA g) := by
  unfold w_Jxe99ae_doubleToLongBits_ccdee at h
  refine zMet (own := RJxe99ae) [(0, .double x0)] (by decide +kernel) rfl (Nat.le_of_ble_eq_true rfl) rfl (fun p e s m args below meth c C hr => ?_)
  refine zm_dload_n C dJxe99ae_doubleToLongBits_ccdee_0 rfl 0 rfl ?_
  refine zm_ci (zr_Sx (As := [.double x0]) (rest := []) C (c_Jxe99ae_isNaN_b9ae7 l _ M x0 h) wd_936 wd_937 wd_27 wd_938 hz_Jxe99ae_isNaN_b9ae7 rfl rfl ⟨by decide, by decide⟩ ⟨(show 0 + 0 ≤ 0 by omega), (show 0 + 0 ≤ 0 by omega)⟩ rfl rfl (Nat.le_of_ble_eq_true rfl) dJxe99ae_doubleToLongBits_ccdee_1) (fun r_1 M1 hq => ?_)
  obtain ⟨rfl, h⟩ := hq
  refine zm_if_ne (tgt := 12) C dJxe99ae_doubleToLongBits_ccdee_4 (by decide) (fun hc_3 => ?_) (fun hc_3 => ?_)
  · have h := h.1 hc_3
    refine zm_ldc2 (v := 9221120237041090560) C wd_942 dJxe99ae_doubleToLongBits_ccdee_12 ?_
    refine zm_widen (k1 := 0) (n1 := 0) (by omega) (by omega) ?_
    exact zm_lret C hr dJxe99ae_doubleToLongBits_ccdee_15 ⟨rfl, h⟩
  · have h := h.2 hc_3
    refine zm_dload_n C dJxe99ae_doubleToLongBits_ccdee_7 rfl 0 rfl ?_
    refine zm_d2l C wd_939 wd_941 wd_940 wd_27 (by decide) (by decide) dJxe99ae_doubleToLongBits_ccdee_8 ?_
    refine zm_widen (k1 := 0) (n1 := 0) (by omega) (by omega) ?_
    exact zm_lret C hr dJxe99ae_doubleToLongBits_ccdee_11 ⟨rfl, h⟩
abbrev rm_Jxf58ca_isNaN_12338 : Room := { frames := 0, cells := 0, slots := 0, locals := 0 }
def w_Jxf58ca_isNaN_12338 (x0 : UInt32) (Q : Int32 → Prop) : Prop := (((Op.cmpValue (FP.fcmp x0 x0) .l) = 0) → Q (0 : Int32)) ∧ ((¬ (Op.cmpValue (FP.fcmp x0 x0) .l) = 0) → Q (1 : Int32))
set_option maxHeartbeats 4000000 in
set_option maxRecDepth 100000 in
theorem c_Jxf58ca_isNaN_12338 (l : Launch) (g : GE) (M : Mem) (x0 : UInt32) {Q : Int32 → Prop} (h : w_Jxf58ca_isNaN_12338 x0 Q) : Met l yJxf58ca_isNaN_12338 (.code yJxf58ca_isNaN_12338 cJxf58ca_isNaN_12338 1 (Option.some Jvm.ClassFile.FieldType.boolean) :: TB) rm_Jxf58ca_isNaN_12338 (zPc g M [.float x0]) (zQi g (zP0 M Q)) 0 0 (zA g) := by
  unfold w_Jxf58ca_isNaN_12338 at h
  refine zMetF (own := RJxf58ca) [(0, .float x0)] (zFloatPlain rfl (by decide)) rfl (Nat.le_of_ble_eq_true rfl) rfl (fun p e s m args below meth c C hr => ?_)
  refine zm_fload_n C dJxf58ca_isNaN_12338_0 rfl 0 rfl ?_
  refine zm_fload_n C dJxf58ca_isNaN_12338_1 rfl 0 rfl ?_
  refine zm_fcmp C dJxf58ca_isNaN_12338_2 ?_
  refine zm_if_eq (tgt := 10) C dJxf58ca_isNaN_12338_3 (by decide) (fun hc_1 => ?_) (fun hc_1 => ?_)
  · have h := h.1 hc_1
    refine zm_iconst (v := 0) C dJxf58ca_isNaN_12338_10 (by decide) ?_
    refine zm_widen (k1 := 0) (n1 := 0) (by omega) (by omega) ?_
    exact zm_zret (ty := .boolean) C hr (by decide) dJxf58ca_isNaN_12338_11 ⟨rfl, h⟩
  · have h := h.2 hc_1
    refine zm_iconst (v := 1) C dJxf58ca_isNaN_12338_6 (by decide) ?_
    refine zm_goto (tgt := 11) C dJxf58ca_isNaN_12338_7 (by decide) ?_
    refine zm_widen (k1 := 0) (n1 := 0) (by omega) (by omega) ?_
    exact zm_zret (ty := .boolean) C hr (by decide) dJxf58ca_isNaN_12338_11 ⟨rfl, h⟩
abbrev rm_Jxf58ca_floatToIntBits_5c35a : Room := { frames := 1, cells := 0, slots := 0, locals := 40 }
def w_Jxf58ca_floatToIntBits_5c35a (x0 : UInt32) (Q : Int32 → Prop) : Prop := w_Jxf58ca_isNaN_12338 x0 (fun r_1 => ((¬ r_1 = 0) → Q (2143289344 : Int32)) ∧ ((r_1 = 0) → Q (x0.toInt32)))
set_option maxHeartbeats 4000000 in
set_option maxRecDepth 100000 in
theorem c_Jxf58ca_floatToIntBits_5c35a (l : Launch) (g : GE) (M : Mem) (x0 : UInt32) {Q : Int32 → Prop} (h : w_Jxf58ca_floatToIntBits_5c35a x0 Q) : Met l yJxf58ca_floatToIntBits_5c35a (.code yJxf58ca_floatToIntBits_5c35a cJxf58ca_floatToIntBits_5c35a 1 (Option.some Jvm.ClassFile.FieldType.int) :: TB) rm_Jxf58ca_floatToIntBits_5c35a (zPc g M [.float x0]) (zQi g (zP0 M Q)) 0 0 (zA g) := by
  unfold w_Jxf58ca_floatToIntBits_5c35a at h
  refine zMetF (own := RJxf58ca) [(0, .float x0)] (zFloatPlain rfl (by decide)) rfl (Nat.le_of_ble_eq_true rfl) rfl (fun p e s m args below meth c C hr => ?_)
  refine zm_fload_n C dJxf58ca_floatToIntBits_5c35a_0 rfl 0 rfl ?_
  refine zm_ci (zr_Sx (As := [.float x0]) (rest := []) C (c_Jxf58ca_isNaN_12338 l _ M x0 h) wd_955 wd_956 wd_28 wd_957 hz_Jxf58ca_isNaN_12338 rfl rfl ⟨by decide, by decide⟩ ⟨(show 0 + 0 ≤ 0 by omega), (show 0 + 0 ≤ 0 by omega)⟩ rfl rfl (Nat.le_of_ble_eq_true rfl) dJxf58ca_floatToIntBits_5c35a_1) (fun r_1 M1 hq => ?_)
  obtain ⟨rfl, h⟩ := hq
  refine zm_if_ne (tgt := 12) C dJxf58ca_floatToIntBits_5c35a_4 (by decide) (fun hc_3 => ?_) (fun hc_3 => ?_)
  · have h := h.1 hc_3
    refine zm_ldc (v := 2143289344) C wd_961 dJxf58ca_floatToIntBits_5c35a_12 ?_
    refine zm_widen (k1 := 0) (n1 := 0) (by omega) (by omega) ?_
    exact zm_iret C hr dJxf58ca_floatToIntBits_5c35a_14 ⟨rfl, h⟩
  · have h := h.2 hc_3
    refine zm_fload_n C dJxf58ca_floatToIntBits_5c35a_7 rfl 0 rfl ?_
    refine zm_f2i C wd_958 wd_960 wd_959 wd_28 (by decide) (by decide) dJxf58ca_floatToIntBits_5c35a_8 ?_
    refine zm_widen (k1 := 0) (n1 := 0) (by omega) (by omega) ?_
    exact zm_iret C hr dJxf58ca_floatToIntBits_5c35a_11 ⟨rfl, h⟩
