/-! THE WORLD: one memory of the objects of a FoxBurrows, numbers 0 .. 116; behind them whatever else the law has made (g.2.2.2.2.1, a list); the script and the literals lie outside; 'ad' tells its address. What an object is (zkd), how long a row is (zln) and which objects it names never changes; what can change is told by two functions object -> slot -> int (class, reference) and the law's two own rows. -/
def zIsN : Cond → Bool
  | .methodLinkNest .. => true
  | .fieldLinkNest .. => true
  | .castable .. => true
  | .declares _ => true
  | _ => false
/-- a private method of StringBuilder's super class is what a call on a StringBuilder selects -/
def zxMs : List MethodName := [⟨"java/lang/AbstractStringBuilder", "ensureCapacityInternal", "(I)V"⟩, ⟨"java/lang/AbstractStringBuilder", "putStringAt", "(ILjava/lang/String;)V"⟩, ⟨"java/lang/AbstractStringBuilder", "inflateIfNeededFor", "(Ljava/lang/String;)V"⟩]
def zxS : List Cond := zxMs.map fun y => Cond.selects "java/lang/StringBuilder" y y
theorem zSelPriv {C : String} {y : MethodName} {s : State} {args : Array Value} {n : Nat} (hy : y.cls ≠ "java/lang/invoke/MethodHandle" ∧ y.cls ≠ "java/lang/invoke/VarHandle") (hins : (Cond.instantiable C n).before args s = true) (hpriv : (Cond.privateMethod y).before args s = true) (hinst : (Cond.instanceMethod y).before args s = true) {x0 y0 : MethodName} (h0 : (Cond.selects C x0 y0).before args s = true) (he : y0.cls = y.cls) : (Cond.selects C y y).before args s = true := by
  obtain ⟨c, k, hc, hk, -, hniab, -, -⟩ := Cond.instantiable_spec hins
  obtain ⟨c2, r2, m2, q1, q2, q3, q4, kP, hkP, hkPi⟩ := Cond.selects_spec h0
  obtain ⟨mk, methM, hnamed, hmethM, -, -⟩ := Cond.instanceMethod_spec hinst
  have hfound : s.methodFound? y.cls y.name y.desc = some mk := State.methodFound?_of_named hnamed hy
  have hsel : selectMethod {} s.vm c mk = .method mk := selectMethod_private hmethM (Cond.privateMethod_at hpriv mk methM hnamed hmethM)
  have hcls : m2.cls = mk.cls := Option.some.inj ((findClass_of_methodNamed q3).symm.trans (by rw [he]; exact findClass_of_methodNamed hnamed))
  rw [hcls] at hkP
  simp only [Cond.before, Cond.holds, Cond.value, hc, hfound, hnamed, hsel, hkP]
  simp; exact hkPi
theorem zx_ok : zxMs.all (fun y => decide (y.cls ≠ "java/lang/invoke/MethodHandle" ∧ y.cls ≠ "java/lang/invoke/VarHandle") && (decide (Cond.privateMethod y ∈ lw_tbl) && decide (Cond.instanceMethod y ∈ lw_tbl))) = true := by decide +kernel
theorem zx_i : Cond.instantiable "java/lang/StringBuilder" 4 ∈ lw_tbl := List.mem_append_right _ (List.mem_of_getElem? (i := 1119) (by decide +kernel))
theorem zx_s : Cond.selects "java/lang/StringBuilder" ⟨"java/lang/AbstractStringBuilder", "isLatin1", "()Z"⟩ ⟨"java/lang/AbstractStringBuilder", "isLatin1", "()Z"⟩ ∈ lw_tbl := List.mem_append_right _ (List.mem_of_getElem? (i := 1193) (by decide +kernel))
theorem zx_c : ∀ y ∈ zxMs, y.cls = "java/lang/AbstractStringBuilder" := by decide +kernel
theorem zx_ts {args : Array Value} {s : State} (hts : ∀ w ∈ lw_tbl, w.before args s = true) : ∀ w ∈ zxS ++ lw_tbl, w.before args s = true := fun w hw => by
  rcases List.mem_append.mp hw with h | h
  · obtain ⟨y, hy, rfl⟩ := List.mem_map.mp h
    have h1 := List.all_eq_true.mp zx_ok y hy
    simp only [Bool.and_eq_true, decide_eq_true_eq] at h1
    exact zSelPriv h1.1 (hts _ zx_i) (hts _ h1.2.1) (hts _ h1.2.2) (hts _ zx_s) (zx_c y hy).symm
  · exact hts w h
def TB : List Cond := (zxS ++ lw_tbl).filter goodWord
theorem zTBts {args : Array Value} {s : State} (hts : ∀ w ∈ lw_tbl, w.before args s = true) : ∀ w ∈ TB, w.before args s = true := fun w h => zx_ts hts w (List.mem_filter.mp h).1
def TN : List Cond := lw_tbl.filter zIsN
theorem zTB {w : Cond} (i : Nat) (h : tables_1[i]? = some w) (hg : goodWord w = true) : w ∈ TB := List.mem_filter.mpr ⟨List.mem_append_right _ (List.mem_append_right _ (List.mem_of_getElem? h)), hg⟩
theorem zTBp {w : Cond} (i : Nat) (h : (k2_sels lw_privs)[i]? = some w) (hg : goodWord w = true) : w ∈ TB := List.mem_filter.mpr ⟨List.mem_append_right _ (List.mem_append_left _ (List.mem_of_getElem? h)), hg⟩
theorem zTBx {w : Cond} (i : Nat) (h : zxS[i]? = some w) (hg : goodWord w = true) : w ∈ TB := List.mem_filter.mpr ⟨List.mem_append_left _ (List.mem_of_getElem? h), hg⟩
theorem zTN {w : Cond} (i : Nat) (h : tables_1[i]? = some w) (hg : zIsN w = true) : w ∈ TN := List.mem_filter.mpr ⟨List.mem_append_right _ (List.mem_of_getElem? h), hg⟩
theorem zGoodTB : GoodIn TB TB := fun w h => ⟨h, good_of_word (List.mem_filter.mp h).2⟩
theorem zGood1 {w : Cond} (h : w ∈ TB) : GoodIn TB (w :: TB) := fun w' h' => (List.mem_cons.mp h').elim (fun e => by rw [e]; exact zGoodTB w h) (zGoodTB w')
theorem zGoodA {a b : List Cond} (ha : ∀ w ∈ a, w ∈ TB) (hb : GoodIn TB b) : GoodIn TB (a ++ b) := fun w h => (List.mem_append.mp h).elim (fun h => zGoodTB w (ha w h)) (hb w)
theorem zMem3 {a b c : Cond} (ha : a ∈ TB) (hb : b ∈ TB) (hc : c ∈ TB) : ∀ w ∈ [a, b, c], w ∈ TB := fun w h => by
  rcases List.mem_cons.mp h with h | h
  · rw [h]; exact ha
  · rcases List.mem_cons.mp h with h | h
    · rw [h]; exact hb
    · rw [List.mem_singleton] at h; rw [h]; exact hc
theorem zMem4 {a b c d : Cond} (ha : a ∈ TB) (hb : b ∈ TB) (hc : c ∈ TB) (hd : d ∈ TB) : ∀ w ∈ [a, b, c, d], w ∈ TB := fun w h => by
  rcases List.mem_cons.mp h with h | h
  · rw [h]; exact ha
  · exact zMem3 hb hc hd w h
abbrev MU : Type := Nat → Nat → Int32
abbrev Mem : Type := MU × (MU × ((Nat → Int64) × (Nat → UInt64)))
/-- base, further cells, the script (cell, length, ints), the literals (texts, their bytes) -/
abbrev GT : Type := Nat × (va_W × ((Nat × (Nat × (Nat → Int32))) × ((Nat → Nat) × (Nat → Nat))))
abbrev GE : Type := va_G × ((Nat → ClassId) × ((Nat → Nat) × GT))
def zTys (g : GE) : List (ClassId × FieldType) := [(g.2.1 0, .int), (g.2.1 1, .char), (g.2.1 2, .long), (g.2.1 3, .int), (g.2.1 4, .object "FoxBurrows$State"), (g.2.1 5, .byte)]
abbrev zCl : List vw_C := [(RX0, TX0, 3), (RX1, TX1, 8), (RX2, TX2, 4), (RX3, TX3, 5), (RX4, TX4, 4), (RX5, TX5, 3), (RX6, TX6, 3), (RX7, TX7, 6), (RX8, TX8, 2), (RX9, TX9, 16), (RJ4, TJ4, 4), (RJ0, TJ0, 4)]
/-- kinds: 1 FoxBurrows, 2 State, 3 Field, 4 Game, 5 ints, 6 chars, 7 Changes, 8 States, 9 Table, 10 SecondWay, 11 Text, 12 Reader, 13 Reason, 14 the reference, 15 its ints, 16 its chars, 17 longs, 18 doubles -/
def zKinds : List Nat := [1, 2, 3, 5, 5, 5, 4, 5, 5, 2, 3, 5, 5, 5, 4, 5, 5, 2, 3, 5, 5, 5, 4, 5, 5, 7, 8, 2, 3, 5, 5, 5, 4, 5, 5, 2, 3, 5, 5, 5, 4, 5, 5, 2, 3, 5, 5, 5, 4, 5, 5, 2, 3, 5, 5, 5, 4, 5, 5, 2, 3, 5, 5, 5, 4, 5, 5, 2, 3, 5, 5, 5, 4, 5, 5, 2, 3, 5, 5, 5, 4, 5, 5, 2, 3, 5, 5, 5, 4, 5, 5, 3, 5, 5, 5, 9, 5, 5, 5, 5, 9, 5, 5, 5, 5, 10, 5, 5, 11, 6, 11, 6, 12, 5, 5, 5, 13]
def zLens : List Nat := [0, 0, 0, 16, 16, 8, 0, 41, 40, 0, 0, 16, 16, 8, 0, 41, 40, 0, 0, 16, 16, 8, 0, 41, 40, 0, 8, 0, 0, 16, 16, 8, 0, 41, 40, 0, 0, 16, 16, 8, 0, 41, 40, 0, 0, 16, 16, 8, 0, 41, 40, 0, 0, 16, 16, 8, 0, 41, 40, 0, 0, 16, 16, 8, 0, 41, 40, 0, 0, 16, 16, 8, 0, 41, 40, 0, 0, 16, 16, 8, 0, 41, 40, 0, 0, 16, 16, 8, 0, 41, 40, 0, 16, 16, 8, 0, 336, 336, 1296, 1296, 0, 336, 336, 1296, 1296, 0, 336, 1296, 0, 160, 0, 160, 0, 30, 30, 30, 0]
def zkd (k : Nat) : Nat := zKinds.getD k 0
def zln (k : Nat) : Nat := zLens.getD k 0
theorem zkd_lt {k n : Nat} (h : zkd k = n) (hn : n ≠ 0) : k < 117 := by
  rcases Nat.lt_or_ge k 117 with q | q
  · exact q
  · refine absurd ?_ hn
    rw [← h]
    unfold zkd
    rw [List.getD_eq_getElem?_getD, List.getElem?_eq_none (by exact q)]
    rfl
/-- what follows for every object of a kind is looked up for all -/
theorem zAll {P : Nat → Prop} [DecidablePred P] (h : (List.range 117).all (fun k => decide (P k)) = true) {k n : Nat} (hk : zkd k = n) (hn : n ≠ 0) : P k :=
  of_decide_eq_true (List.all_eq_true.mp h k (List.mem_range.mpr (zkd_lt hk hn)))
def zRend (g : GE) (M : Mem) (k : Nat) : Nat → va_E
  | 1 => .inr (9, [.ref (g.2.2.1 1), .ref (g.2.2.1 9), .ref (g.2.2.1 17), .int (M.1 k 3), .ref (g.2.2.1 25), .ref (g.2.2.1 91), .ref (g.2.2.1 95), .ref (g.2.2.1 100), .ref (g.2.2.1 105), .ref (g.2.2.1 108), .ref (g.2.2.1 110), .ref (g.2.2.1 112), .ref (g.2.2.1 116), .int (M.1 k 13), .int (M.1 k 14), .int (M.1 k 15)])
  | 2 => .inr (6, [.ref (g.2.2.1 (k + 1)), .ref (g.2.2.1 (k + 5)), .int (M.1 k 2)])
  | 3 => .inr (1, [.int (M.1 k 0), .int (M.1 k 1), .int (M.1 k 2), .int (M.1 k 3), .int (M.1 k 4), .ref (g.2.2.1 (k + 1)), .ref (g.2.2.1 (k + 2)), .ref (g.2.2.1 (k + 3))])
  | 4 => .inr (2, [.int (M.1 k 0), .int (M.1 k 1), .ref (g.2.2.1 (k + 1)), .ref (g.2.2.1 (k + 2))])
  | 5 => .inl (g.2.1 0, zln k, .inl (M.1 k))
  | 6 => .inl (g.2.1 1, zln k, .inl (M.1 k))
  | 7 => .inr (0, [.ref (g.2.2.1 (k + 1)), .int (M.1 k 1), .int (M.1 k 2)])
  | 8 => .inl (g.2.1 4, 8, .inr (.inr (.inr (.inr (fun j => some (g.2.2.1 (k + 1 + 8 * j)))))))
  | 9 => .inr (7, [.int (M.1 k 0), .int (M.1 k 1), .ref (g.2.2.1 (k + 1)), .ref (g.2.2.1 (k + 2)), .ref (g.2.2.1 (k + 3)), .ref (g.2.2.1 (k + 4))])
  | 10 => .inr (5, [.int (M.1 k 0), .ref (g.2.2.1 (k + 1)), .ref (g.2.2.1 (k + 2))])
  | 11 => .inr (8, [.int (M.1 k 0), .ref (g.2.2.1 (k + 1))])
  | 12 => .inr (3, [.int (M.1 k 0), .ref (g.2.2.1 (k + 1)), .ref (g.2.2.1 (k + 2)), .ref (g.2.2.1 (k + 3)), .int (M.1 k 4)])
  | 13 => .inr (4, [.int (M.1 k 0), .int (M.1 k 1), .int (M.1 k 2), .int (M.1 k 3)])
  | _ => .inl (g.2.1 0, 0, .inl (fun _ => 0))
theorem zRend_eq {g : GE} {M M' : Mem} {k : Nat} (h1 : M.1 k = M'.1 k) (n : Nat) : zRend g M k n = zRend g M' k n := by
  unfold zRend
  split <;> simp only [h1]
def zCell (g : GE) (M : Mem) (k : Nat) : va_E := zRend g M k (zkd k)
theorem zCell_eq {g : GE} (M M' : Mem) {k : Nat} (h1 : M.1 k = M'.1 k) : zCell g M k = zCell g M' k := zRend_eq h1 _
theorem zCell_k {g : GE} {M : Mem} {k n : Nat} (h : zkd k = n) : zCell g M k = zRend g M k n := by unfold zCell; rw [h]
def zW (g : GE) (M : Mem) : va_W := ((List.range 117).map fun k => (g.2.2.1 k, zCell g M k)) ++ g.2.2.2.2.1
theorem zW_len (g : GE) (M : Mem) : ((List.range 117).map fun k => (g.2.2.1 k, zCell g M k)).length = 117 := by rw [List.length_map, List.length_range]
theorem zW_at (g : GE) (M : Mem) {k : Nat} (hk : k < 117) : (zW g M)[k]? = some (g.2.2.1 k, zCell g M k) := by
  unfold zW
  rw [List.getElem?_append_left (by rw [zW_len]; exact hk), List.getElem?_map, List.getElem?_range hk]
  rfl
theorem zW_x (g : GE) (M : Mem) (i : Nat) : (zW g M)[117 + i]? = g.2.2.2.2.1[i]? := by
  unfold zW
  rw [List.getElem?_append_right (by rw [zW_len]; exact Nat.le_add_right _ _), zW_len, Nat.add_sub_cancel_left]
theorem zW_set {g : GE} {M M' : Mem} {k : Nat} (hk : k < 117) (h : ∀ j, j ≠ k → zCell g M' j = zCell g M j) : (zW g M).set k (g.2.2.1 k, zCell g M' k) = zW g M' := by
  unfold zW
  rw [List.set_append_left _ _ (by rw [zW_len]; exact hk)]
  refine congrArg (fun z => z ++ g.2.2.2.2.1) ?_
  apply List.ext_getElem?
  intro i
  rw [List.getElem?_set]
  by_cases hi : k = i
  · subst hi
    rw [if_pos rfl, if_pos (by rw [zW_len]; exact hk), List.getElem?_map, List.getElem?_range hk]
    rfl
  · rw [if_neg hi, List.getElem?_map, List.getElem?_map]
    by_cases hq : i < 117
    · rw [List.getElem?_range hq]
      show some (g.2.2.1 i, zCell g M i) = some (g.2.2.1 i, zCell g M' i)
      rw [h i (fun e => hi e.symm)]
    · rw [List.getElem?_eq_none (by rw [List.length_range]; exact Nat.not_lt.mp hq)]
      rfl
def u2 (μ : MU) (k j : Nat) (v : Int32) : MU := fun a => if a = k then upd (μ k) j v else μ a
theorem u2_same (μ : MU) (k j : Nat) (v : Int32) : u2 μ k j v k = upd (μ k) j v := by unfold u2; rw [if_pos rfl]
theorem u2_ne {μ : MU} {k j a : Nat} {v : Int32} (h : a ≠ k) : u2 μ k j v a = μ a := by unfold u2; rw [if_neg h]
/-- a whole row anew -/
def u1 (μ : MU) (k : Nat) (f : Nat → Int32) : MU := fun a => if a = k then f else μ a
theorem u1_same (μ : MU) (k : Nat) (f : Nat → Int32) : u1 μ k f k = f := by unfold u1; rw [if_pos rfl]
theorem u1_ne {μ : MU} {k a : Nat} {f : Nat → Int32} (h : a ≠ k) : u1 μ k f a = μ a := by unfold u1; rw [if_neg h]
theorem zset_x {g : GE} {M : Mem} {k j : Nat} {v : Int32} (hk : k < 117) : (zW g M).set k (g.2.2.1 k, zCell g (u2 M.1 k j v, M.2) k) = zW g (u2 M.1 k j v, M.2) :=
  zW_set hk (fun i hi => zCell_eq (u2 M.1 k j v, M.2) M (u2_ne hi))
theorem zset_x1 {g : GE} {M : Mem} {k : Nat} {f : Nat → Int32} (hk : k < 117) : (zW g M).set k (g.2.2.1 k, zCell g (u1 M.1 k f, M.2) k) = zW g (u1 M.1 k f, M.2) :=
  zW_set hk (fun i hi => zCell_eq (u1 M.1 k f, M.2) M (u1_ne hi))
def zA (g : GE) : Nat → Prop := fun q => g.2.2.2.1 ≤ q
def zDist (g : GE) : Prop := ∀ M : Mem, va_D (zA g) (zW g M)
theorem zDist.D {g : GE} (h : zDist g) (M : Mem) : va_D (zA g) (zW g M) := h M
/-- the texts of the class's throws, by their places -/
def zStr : List (Nat × String) := [(435, "it is refused"), (145, "there is no such position"), (153, "what is not from 0 to 6"), (194, "there is no such place"), (213, "the position has no move"), (218, "there is no such move"), (224, "the position is drawn"), (226, "there is no such outcome"), (234, "none is won"), (236, "the number is below 0"), (247, "there is no such burrow"), (250, "both burrows are one"), (274, "no burrow wins for the fox"), (276, "what is not from 0 to 3"), (302, "there is no such path"), (130, "there is no game"), (341, "the buffer is full"), (352, "the text has a fault"), (363, "what is not from 0 to 2"), (368, "nothing was refused"), (383, "there is no such index"), (312, "no position is won or lost"), (315, "there are no positions"), (317, "what is not from 0 to 10"), (389, "there is nothing to undo"), (400, "there is no snapshot")]
def zNc : List (String × String) := [("java/lang/IllegalArgumentException", "java/util/NoSuchElementException"), ("java/util/NoSuchElementException", "java/lang/IllegalArgumentException"), ("java/lang/IndexOutOfBoundsException", "java/lang/IllegalArgumentException"), ("java/lang/IllegalArgumentException", "java/lang/IndexOutOfBoundsException"), ("java/lang/UnsupportedOperationException", "java/lang/IllegalArgumentException")]
/-- the law's literals: place in the pool, text, bytes -/
def zLitI : List Nat := [238, 246, 252, 254, 276, 282, 284]
def zLitT : List String := ["b", ";a3", "g", ";d", "q", ";g", "x0-1;p0-1;b9999"]
def zLitB : List (List Int32) := [[98], [59, 97, 51], [103], [59, 100], [113], [59, 103], [120, 48, 45, 49, 59, 112, 48, 45, 49, 59, 98, 57, 57, 57, 57]]
def zOnes : List Int32 := [48, 49, 50, 51, 52, 53, 54, 55, 56, 57, 48, 49, 50, 51, 52, 53, 54, 55, 56, 57, 48, 49, 50, 51, 52, 53, 54, 55, 56, 57, 48, 49, 50, 51, 52, 53, 54, 55, 56, 57, 48, 49, 50, 51, 52, 53, 54, 55, 56, 57, 48, 49, 50, 51, 52, 53, 54, 55, 56, 57, 48, 49, 50, 51, 52, 53, 54, 55, 56, 57, 48, 49, 50, 51, 52, 53, 54, 55, 56, 57, 48, 49, 50, 51, 52, 53, 54, 55, 56, 57, 48, 49, 50, 51, 52, 53, 54, 55, 56, 57]
def zTens : List Int32 := [48, 48, 48, 48, 48, 48, 48, 48, 48, 48, 49, 49, 49, 49, 49, 49, 49, 49, 49, 49, 50, 50, 50, 50, 50, 50, 50, 50, 50, 50, 51, 51, 51, 51, 51, 51, 51, 51, 51, 51, 52, 52, 52, 52, 52, 52, 52, 52, 52, 52, 53, 53, 53, 53, 53, 53, 53, 53, 53, 53, 54, 54, 54, 54, 54, 54, 54, 54, 54, 54, 55, 55, 55, 55, 55, 55, 55, 55, 55, 55, 56, 56, 56, 56, 56, 56, 56, 56, 56, 56, 57, 57, 57, 57, 57, 57, 57, 57, 57, 57]
/-- a text that no call changes: its cell a, its bytes' cell pb -/
def zStrF (a pb : Nat) (bs : List Int32) (A : Nat → Prop) (U : State) (H : Heap) : Prop := va_O "java/lang/String" a A U H ∧ va_OF "java/lang/String" "coder" "B" (.int 0) a A U H ∧ va_OF "java/lang/String" "value" "[B" (.ref pb) a A U H ∧ va_T .byte pb bs.length (fun j => .int (bs.getD j 0)) A U H
theorem zStrF.moved {a pb : Nat} {bs : List Int32} {A : Nat → Prop} {u U : State} {H : Heap} (hvm : u.vm.Alike U.vm) (h : zStrF a pb bs A u H) : zStrF a pb bs A U H := ⟨va_O.moved hvm h.1, va_OF.moved hvm h.2.1, va_OF.moved hvm h.2.2.1, va_T.moved hvm h.2.2.2⟩
theorem zStrF.kept {a pb : Nat} {bs : List Int32} {A : Nat → Prop} {U : State} {H H1 : Heap} (h : zStrF a pb bs A U H) (hq : ∀ a : Nat, a < H.size → ¬ A a → H1[a]? = H[a]?) : zStrF a pb bs A U H1 := ⟨h.1.kept hq, h.2.1.kept hq, h.2.2.1.kept hq, h.2.2.2.kept hq⟩
theorem zStrF.narrow {a pb : Nat} {bs : List Int32} {A B : Nat → Prop} {U : State} {H : Heap} (h : zStrF a pb bs A U H) (hAB : ∀ q, B q → A q) : zStrF a pb bs B U H := ⟨h.1.narrow hAB, h.2.1.narrow hAB, h.2.2.1.narrow hAB, h.2.2.2.narrow hAB⟩
/-- what the JDK's texts stand on -/
def zJdk (A : Nat → Prop) (U : State) (H : Heap) : Prop := va_Z "java/lang/String" "COMPACT_STRINGS" "Z" (.int 1) A U H ∧ va_Zq "jdk/internal/util/Preconditions" "SIOOBE_FORMATTER" "Ljava/util/function/BiFunction;" A U H ∧ (∃ t : Nat, va_Z "java/lang/Integer" "DigitOnes" "[B" (.ref t) A U H ∧ va_T .byte t 100 (fun j => .int (zOnes.getD j 0)) A U H) ∧ ∃ t : Nat, va_Z "java/lang/Integer" "DigitTens" "[B" (.ref t) A U H ∧ va_T .byte t 100 (fun j => .int (zTens.getD j 0)) A U H
theorem zJdk.moved {A : Nat → Prop} {u U : State} {H : Heap} (hvm : u.vm.Alike U.vm) (h : zJdk A u H) : zJdk A U H := ⟨va_Z.moved hvm h.1, va_Zq.moved hvm h.2.1, h.2.2.1.imp fun _ z => ⟨va_Z.moved hvm z.1, va_T.moved hvm z.2⟩, h.2.2.2.imp fun _ z => ⟨va_Z.moved hvm z.1, va_T.moved hvm z.2⟩⟩
theorem zJdk.kept {A : Nat → Prop} {U : State} {H H1 : Heap} (h : zJdk A U H) (hq : ∀ a : Nat, a < H.size → ¬ A a → H1[a]? = H[a]?) : zJdk A U H1 := ⟨h.1.kept hq, h.2.1.kept hq, h.2.2.1.imp fun _ z => ⟨z.1.kept hq, z.2.kept hq⟩, h.2.2.2.imp fun _ z => ⟨z.1.kept hq, z.2.kept hq⟩⟩
theorem zJdk.narrow {A B : Nat → Prop} {U : State} {H : Heap} (h : zJdk A U H) (hAB : ∀ q, B q → A q) : zJdk B U H := ⟨h.1.narrow hAB, h.2.1.narrow hAB, h.2.2.1.imp fun _ z => ⟨z.1.narrow hAB, z.2.narrow hAB⟩, h.2.2.2.imp fun _ z => ⟨z.1.narrow hAB, z.2.narrow hAB⟩⟩
/-- literals, statics, script: outside of all that changes -/
def zEnv (g : GE) (U : State) (H : Heap) : Prop := (∀ i, i < 7 → zStrF (g.2.2.2.2.2.2.1 i) (g.2.2.2.2.2.2.2 i) (zLitB.getD i []) (zA g) U H) ∧ zJdk (zA g) U H ∧ va_X g.2.2.2.2.2.1.1 g.2.2.2.2.2.1.2.1 g.2.2.2.2.2.1.2.2 U H ∧ ¬ zA g g.2.2.2.2.2.1.1
theorem zEnv.moved {g : GE} {u U : State} {H : Heap} (hvm : u.vm.Alike U.vm) (h : zEnv g u H) : zEnv g U H := ⟨fun i hi => (h.1 i hi).moved hvm, h.2.1.moved hvm, va_X.moved hvm h.2.2.1, h.2.2.2⟩
theorem zEnv.kept {g : GE} {U : State} {H H1 : Heap} (h : zEnv g U H) (hq : ∀ a : Nat, a < H.size → ¬ zA g a → H1[a]? = H[a]?) : zEnv g U H1 := ⟨fun i hi => (h.1 i hi).kept hq, h.2.1.kept hq, va_X.kept h.2.2.1 (by obtain ⟨scr, h1, -⟩ := h.2.2.1; exact hq _ (Array.getElem?_eq_some_iff.mp h1).1 h.2.2.2), h.2.2.2⟩
def zFix (g : GE) (U : State) : Prop := va_K g.1 zCl (zTys g) U ∧ (∀ w ∈ TN, va_Nw w U) ∧ (∀ q ∈ zStr, ∃ a, vk_R RX9 q.1 q.2 a U) ∧ (∀ q ∈ zNc, va_Nc q.1 q.2 U) ∧ ∀ i, i < 7 → vk_R RL (zLitI.getD i 0) (zLitT.getD i "") (g.2.2.2.2.2.2.1 i) U
theorem zNw_warm {w : Cond} (hw : zIsN w = true) {s U : State} (hW : s.WarmedH U.vm) (h : va_Nw w s) : va_Nw w U := by
  cases w <;> first | exact va_Nw.warmM hW h | exact va_Nw.warmF hW h | exact va_Nw.warmC hW h | exact va_Nw.warmD hW h | cases hw
theorem zNw_tab {w : Cond} (hw : zIsN w = true) : w.onTables = true := by
  cases w <;> first | rfl | cases hw
theorem zFix.warm {g : GE} {s U : State} (h : zFix g s) (hW : s.WarmedH U.vm) : zFix g U :=
  ⟨va_K.moved hW.alike h.1, fun w hw => zNw_warm (List.mem_filter.mp hw).2 hW (h.2.1 w hw), fun q hq => (h.2.2.1 q hq).imp fun a ha => vk_R.warm hW ha, fun q hq => va_Nc.moved hW.alike (h.2.2.2.1 q hq), fun i hi => vk_R.warm hW (h.2.2.2.2 i hi)⟩
theorem zFix.same {g : GE} {s U : State} (h : zFix g s) (hv : U.vm = s.vm) : zFix g U :=
  ⟨va_K.moved (by rw [hv]; exact Vm.Alike.refl _) h.1, fun w hw => va_Nw.same (zNw_tab (List.mem_filter.mp hw).2) hv.symm (h.2.1 w hw), fun q hq => (h.2.2.1 q hq).imp fun a ha => vk_R.same hv ha, fun q hq => va_Nc.moved (by rw [hv]; exact Vm.Alike.refl _) (h.2.2.2.1 q hq), fun i hi => vk_R.same hv (h.2.2.2.2 i hi)⟩
def zPic (g : GE) (M : Mem) (U : State) (H : Heap) : Prop := va_P g.1 zCl (zW g M) H ∧ vx_Zq Bundle.tN "UNASSIGNED_STACK" Bundle.steD (zA g) U H ∧ vx_Zq Bundle.tN "SUPPRESSED_SENTINEL" Bundle.listD (zA g) U H ∧ zEnv g U H
theorem zPic.moved {g : GE} {M : Mem} {u U : State} {H : Heap} (h : zPic g M u H) (hvm : u.vm.Alike U.vm) : zPic g M U H := ⟨h.1, vx_Zq.moved hvm h.2.1, vx_Zq.moved hvm h.2.2.1, h.2.2.2.moved hvm⟩
theorem zPic.kept {g : GE} {M M' : Mem} {U : State} {H H1 : Heap} (h : zPic g M U H) (hP : va_P g.1 zCl (zW g M') H1) (hq : ∀ a : Nat, a < H.size → ¬ zA g a → H1[a]? = H[a]?) : zPic g M' U H1 := ⟨hP, vx_Zq.kept h.2.1 hq, vx_Zq.kept h.2.2.1 hq, h.2.2.2.kept hq⟩
def zPc (g : GE) (M : Mem) (av : List Value) : Array Value → State → Prop := va_Pc av (fun U => zPic g M U U.heap ∧ zFix g U ∧ zDist g ∧ g.2.2.2.1 ≤ U.heap.size)
theorem zPc_blind {g : GE} {M : Mem} {av : List Value} : FrameBlind (zPc g M av) := by
  intro a U gf mk q
  obtain ⟨q0, q1, q2, q3, q4⟩ := q
  exact ⟨q0, zPic.moved (U := U.calling gf mk a) q1 (Vm.Alike.refl U.vm), zFix.same (U := U.calling gf mk a) q2 rfl, q3, q4⟩
def zCx (p : Program) (l : Launch) (s : State) (m : MethodId) (args : Array Value) (meth : Method) (c : Code) (g : GE) (own : String) (cc : ByteArray) (nL : Nat) : Prop :=
  p.tables.exec = Jvm.exec ∧ c.code = cc ∧ c.maxLocals = nL ∧ s.vm.findClass own = some m.cls ∧ (∀ w ∈ TB, w.before args s = true) ∧ meth.locks = false ∧ zFix g s ∧ zDist g ∧ g.2.2.2.1 ≤ s.heap.size ∧ zEnv g s s.heap ∧ vx_Zq Bundle.tN "UNASSIGNED_STACK" Bundle.steD (zA g) s s.heap ∧ vx_Zq Bundle.tN "SUPPRESSED_SENTINEL" Bundle.listD (zA g) s s.heap
def WM (p : Program) (l : Launch) (e : Env) (R : Room) (s : State) (m : MethodId) (args : Array Value) (below : List Frame) (meth : Method) (c : Code) (g : GE) (nL cells slots : Nat) (Q : State → Prop) (pc : Nat) (lv : List (Nat × Value)) (st : List Value) (M : Mem) : Prop :=
  ∀ (H : Heap) (locs : List Loc) (ls : Array Slot), lv_has ls nL lv → zPic g M s H → va_S (zA g) s.heap H locs → W p l e R s m args below meth c H locs cells slots Q (F0 m pc ls st)
/-- the same of a thing thrown over the frame -/
def WX (p : Program) (l : Launch) (e : Env) (R : Room) (s : State) (m : MethodId) (args : Array Value) (below : List Frame) (meth : Method) (c : Code) (g : GE) (nL cells slots : Nat) (Q : State → Prop) (pc : Nat) (lv : List (Nat × Value)) (E : String) (M : Mem) : Prop :=
  ∀ (H : Heap) (locs : List Loc) (ls : Array Slot) (ce : Cell) (q : Addr) (st : List Value), lv_has ls nL lv → zPic g M s H → va_S (zA g) s.heap H locs → H[q]? = some ce → ce.vm = .none → s.vm.findClass E = some ce.cls → vx_W p l e R s m args below meth c H locs cells slots Q (F0 m pc ls st) q
/-- posts: Qp tells answer and memory -/
def zB (g : GE) : Mem → State → Prop := fun u t => zPic g u t t.heap
abbrev zQi (g : GE) (Qp : Int32 → Mem → Prop) : Array Value → State → Outcome → State → Prop := va_Qi Qp (zB g) (zA g)
abbrev zQl (g : GE) (Qp : Int64 → Mem → Prop) : Array Value → State → Outcome → State → Prop := va_Ql Qp (zB g) (zA g)
abbrev zQf (g : GE) (Qp : UInt32 → Mem → Prop) : Array Value → State → Outcome → State → Prop := va_Qf Qp (zB g) (zA g)
abbrev zQd (g : GE) (Qp : UInt64 → Mem → Prop) : Array Value → State → Outcome → State → Prop := va_Qd Qp (zB g) (zA g)
abbrev zQv (g : GE) (Qp : Mem → Prop) : Array Value → State → Outcome → State → Prop := va_Qv Qp (zB g) (zA g)
/-- a reference or null: the object's number -/
abbrev zQq (g : GE) (Qp : Option Nat → Mem → Prop) : Array Value → State → Outcome → State → Prop := va_Qq (fun r u => ∃ q, r = q.map g.2.2.1 ∧ Qp q u) (zB g) (zA g)
abbrev zXC (g : GE) (Xp : String → Mem → Prop) : String → State → State → Prop := vx_X (fun _ : Mem => True) (fun E u t => Xp E u ∧ zPic g u t t.heap) (zA g)
