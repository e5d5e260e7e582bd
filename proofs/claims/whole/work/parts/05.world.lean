/-! THE WORLD: one memory of all objects that the law makes. An object has a number (0 .. 132); 'ad' tells its address. What an object is (zkd), how long a row is (zln) and which objects it names never changes; what can change is told by two functions object -> slot -> int (class, reference) and the law's two own rows. -/
def zIsN : Cond → Bool
  | .methodLinkNest .. => true
  | .fieldLinkNest .. => true
  | .castable .. => true
  | .declares _ => true
  | _ => false
def TB : List Cond := lw_tbl.filter goodWord
def TN : List Cond := lw_tbl.filter zIsN
theorem zTB {w : Cond} (i : Nat) (h : tables_1[i]? = some w) (hg : goodWord w = true) : w ∈ TB := List.mem_filter.mpr ⟨List.mem_append_right _ (List.mem_of_getElem? h), hg⟩
theorem zTBp {w : Cond} (i : Nat) (h : (k2_sels lw_privs)[i]? = some w) (hg : goodWord w = true) : w ∈ TB := List.mem_filter.mpr ⟨List.mem_append_left _ (List.mem_of_getElem? h), hg⟩
theorem zTN {w : Cond} (i : Nat) (h : tables_1[i]? = some w) (hg : zIsN w = true) : w ∈ TN := List.mem_filter.mpr ⟨List.mem_append_right _ (List.mem_of_getElem? h), hg⟩
theorem zGoodTB : GoodIn TB TB := fun w h => ⟨h, good_of_word (List.mem_filter.mp h).2⟩
theorem zGood1 {w : Cond} (h : w ∈ TB) : GoodIn TB (w :: TB) := fun w' h' => (List.mem_cons.mp h').elim (fun e => by rw [e]; exact zGoodTB w h) (zGoodTB w')
theorem zGoodA {a b : List Cond} (ha : ∀ w ∈ a, w ∈ TB) (hb : GoodIn TB b) : GoodIn TB (a ++ b) := fun w h => (List.mem_append.mp h).elim (fun h => zGoodTB w (ha w h)) (hb w)
theorem zMem3 {a b c : Cond} (ha : a ∈ TB) (hb : b ∈ TB) (hc : c ∈ TB) : ∀ w ∈ [a, b, c], w ∈ TB := fun w h => by
  rcases List.mem_cons.mp h with h | h
  · rw [h]; exact ha
  · rcases List.mem_cons.mp h with h | h
    · rw [h]; exact hb
    · rw [List.mem_singleton] at h; rw [h]; exact hc
theorem zMem4 {a b c d : Cond} (ha : a ∈ TB) (hb : b ∈ TB) (hc : c ∈ TB) (hd : d ∈ TB) : ∀ w ∈ [a, b, c, d], w ∈ TB := fun w h => by
  rcases List.mem_cons.mp h with h | h
  · rw [h]; exact ha
  · exact zMem3 hb hc hd w h
abbrev MU : Type := Nat → Nat → Int32
abbrev Mem : Type := MU × (MU × ((Nat → Int64) × (Nat → UInt64)))
abbrev GE : Type := va_G × ((Nat → ClassId) × ((Nat → Nat) × Nat))
def zTys (g : GE) : List (ClassId × FieldType) := [(g.2.1 0, .int), (g.2.1 1, .char), (g.2.1 2, .long), (g.2.1 3, .double), (g.2.1 4, .object "FoxBurrows$State")]
abbrev zCl : List vw_C := [(RX0, TX0, 3), (RX1, TX1, 8), (RX2, TX2, 4), (RX3, TX3, 5), (RX4, TX4, 4), (RX5, TX5, 3), (RX6, TX6, 3), (RX7, TX7, 6), (RX8, TX8, 2), (RX9, TX9, 16), (RX10, TX10, 26)]
/-- kinds: 1 FoxBurrows, 2 State, 3 Field, 4 Game, 5 ints, 6 chars, 7 Changes, 8 States, 9 Table, 10 SecondWay, 11 Text, 12 Reader, 13 Reason, 14 the reference, 15 its ints, 16 its chars, 17 longs, 18 doubles -/
def zKinds : List Nat := [1, 2, 3, 5, 5, 5, 4, 5, 5, 2, 3, 5, 5, 5, 4, 5, 5, 2, 3, 5, 5, 5, 4, 5, 5, 7, 8, 2, 3, 5, 5, 5, 4, 5, 5, 2, 3, 5, 5, 5, 4, 5, 5, 2, 3, 5, 5, 5, 4, 5, 5, 2, 3, 5, 5, 5, 4, 5, 5, 2, 3, 5, 5, 5, 4, 5, 5, 2, 3, 5, 5, 5, 4, 5, 5, 2, 3, 5, 5, 5, 4, 5, 5, 2, 3, 5, 5, 5, 4, 5, 5, 3, 5, 5, 5, 9, 5, 5, 5, 5, 9, 5, 5, 5, 5, 10, 5, 5, 11, 6, 11, 6, 12, 5, 5, 5, 13, 14, 15, 15, 15, 15, 16, 16, 15, 15, 15, 15, 15, 15, 15, 17, 18]
def zLens : List Nat := [0, 0, 0, 16, 16, 8, 0, 41, 40, 0, 0, 16, 16, 8, 0, 41, 40, 0, 0, 16, 16, 8, 0, 41, 40, 0, 8, 0, 0, 16, 16, 8, 0, 41, 40, 0, 0, 16, 16, 8, 0, 41, 40, 0, 0, 16, 16, 8, 0, 41, 40, 0, 0, 16, 16, 8, 0, 41, 40, 0, 0, 16, 16, 8, 0, 41, 40, 0, 0, 16, 16, 8, 0, 41, 40, 0, 0, 16, 16, 8, 0, 41, 40, 0, 0, 16, 16, 8, 0, 41, 40, 0, 16, 16, 8, 0, 336, 336, 1296, 1296, 0, 336, 336, 1296, 1296, 0, 336, 1296, 0, 160, 0, 160, 0, 30, 30, 30, 0, 0, 119, 119, 952, 119, 200, 60, 2, 8, 1296, 1296, 1296, 24, 24, 1, 1]
def zkd (k : Nat) : Nat := zKinds.getD k 0
def zln (k : Nat) : Nat := zLens.getD k 0
theorem zkd_lt {k n : Nat} (h : zkd k = n) (hn : n ≠ 0) : k < 133 := by
  rcases Nat.lt_or_ge k 133 with q | q
  · exact q
  · refine absurd ?_ hn
    rw [← h]
    unfold zkd
    rw [List.getD_eq_getElem?_getD, List.getElem?_eq_none (by exact q)]
    rfl
/-- what follows for every object of a kind is looked up for all -/
theorem zAll {P : Nat → Prop} [DecidablePred P] (h : (List.range 133).all (fun k => decide (P k)) = true) {k n : Nat} (hk : zkd k = n) (hn : n ≠ 0) : P k :=
  of_decide_eq_true (List.all_eq_true.mp h k (List.mem_range.mpr (zkd_lt hk hn)))
def zRend (g : GE) (M : Mem) (k : Nat) : Nat → va_E
  | 1 => .inr (9, [.ref (g.2.2.1 1), .ref (g.2.2.1 9), .ref (g.2.2.1 17), .int (M.1 k 3), .ref (g.2.2.1 25), .ref (g.2.2.1 91), .ref (g.2.2.1 95), .ref (g.2.2.1 100), .ref (g.2.2.1 105), .ref (g.2.2.1 108), .ref (g.2.2.1 110), .ref (g.2.2.1 112), .ref (g.2.2.1 116), .int (M.1 k 13), .int (M.1 k 14), .int (M.1 k 15)])
  | 2 => .inr (6, [.ref (g.2.2.1 (k + 1)), .ref (g.2.2.1 (k + 5)), .int (M.1 k 2)])
  | 3 => .inr (1, [.int (M.1 k 0), .int (M.1 k 1), .int (M.1 k 2), .int (M.1 k 3), .int (M.1 k 4), .ref (g.2.2.1 (k + 1)), .ref (g.2.2.1 (k + 2)), .ref (g.2.2.1 (k + 3))])
  | 4 => .inr (2, [.int (M.1 k 0), .int (M.1 k 1), .ref (g.2.2.1 (k + 1)), .ref (g.2.2.1 (k + 2))])
  | 5 => .inl (g.2.1 0, zln k, .inl (M.1 k))
  | 6 => .inl (g.2.1 1, zln k, .inl (M.1 k))
  | 7 => .inr (0, [.ref (g.2.2.1 (k + 1)), .int (M.1 k 1), .int (M.1 k 2)])
  | 8 => .inl (g.2.1 4, 8, .inr (.inr (.inr (.inr (fun j => some (g.2.2.1 (k + 1 + 8 * j)))))))
  | 9 => .inr (7, [.int (M.1 k 0), .int (M.1 k 1), .ref (g.2.2.1 (k + 1)), .ref (g.2.2.1 (k + 2)), .ref (g.2.2.1 (k + 3)), .ref (g.2.2.1 (k + 4))])
  | 10 => .inr (5, [.int (M.1 k 0), .ref (g.2.2.1 (k + 1)), .ref (g.2.2.1 (k + 2))])
  | 11 => .inr (8, [.int (M.1 k 0), .ref (g.2.2.1 (k + 1))])
  | 12 => .inr (3, [.int (M.1 k 0), .ref (g.2.2.1 (k + 1)), .ref (g.2.2.1 (k + 2)), .ref (g.2.2.1 (k + 3)), .int (M.1 k 4)])
  | 13 => .inr (4, [.int (M.1 k 0), .int (M.1 k 1), .int (M.1 k 2), .int (M.1 k 3)])
  | 14 => .inr (10, [.ref (g.2.2.1 118), .ref (g.2.2.1 119), .ref (g.2.2.1 120), .int (M.2.1 k 3), .ref (g.2.2.1 121), .int (M.2.1 k 5), .ref (g.2.2.1 122), .int (M.2.1 k 7), .ref (g.2.2.1 123), .int (M.2.1 k 9), .int (M.2.1 k 10), .int (M.2.1 k 11), .ref (g.2.2.1 124), .int (M.2.1 k 13), .int (M.2.1 k 14), .int (M.2.1 k 15), .int (M.2.1 k 16), .int (M.2.1 k 17), .ref (g.2.2.1 125), .ref (g.2.2.1 126), .ref (g.2.2.1 127), .ref (g.2.2.1 128), .int (M.2.1 k 22), .ref (g.2.2.1 129), .ref (g.2.2.1 130), .int (M.2.1 k 25)])
  | 15 => .inl (g.2.1 0, zln k, .inl (M.2.1 k))
  | 16 => .inl (g.2.1 1, zln k, .inl (M.2.1 k))
  | 17 => .inl (g.2.1 2, 1, .inr (.inl M.2.2.1))
  | 18 => .inl (g.2.1 3, 1, .inr (.inr (.inr (.inl M.2.2.2))))
  | _ => .inl (g.2.1 0, 0, .inl (fun _ => 0))
theorem zRend_eq {g : GE} {M M' : Mem} {k : Nat} (h1 : M.1 k = M'.1 k) (h2 : M.2.1 k = M'.2.1 k) (h3 : M.2.2 = M'.2.2) (n : Nat) : zRend g M k n = zRend g M' k n := by
  unfold zRend
  split <;> simp only [h1, h2, h3]
def zCell (g : GE) (M : Mem) (k : Nat) : va_E := zRend g M k (zkd k)
theorem zCell_eq {g : GE} (M M' : Mem) {k : Nat} (h1 : M.1 k = M'.1 k) (h2 : M.2.1 k = M'.2.1 k) (h3 : M.2.2 = M'.2.2) : zCell g M k = zCell g M' k := zRend_eq h1 h2 h3 _
theorem zCell_k {g : GE} {M : Mem} {k n : Nat} (h : zkd k = n) : zCell g M k = zRend g M k n := by unfold zCell; rw [h]
def zW (g : GE) (M : Mem) : va_W := (List.range 133).map fun k => (g.2.2.1 k, zCell g M k)
theorem zW_at (g : GE) (M : Mem) {k : Nat} (hk : k < 133) : (zW g M)[k]? = some (g.2.2.1 k, zCell g M k) := by
  unfold zW
  rw [List.getElem?_map, List.getElem?_range hk]
  rfl
theorem zW_of {g : GE} {M : Mem} {k : Nat} {q : Nat × va_E} (h : (zW g M)[k]? = some q) : k < 133 ∧ q = (g.2.2.1 k, zCell g M k) := by
  have hk : k < 133 := by
    have := (List.getElem?_eq_some_iff.mp h).1
    simpa [zW] using this
  rw [zW_at g M hk] at h
  exact ⟨hk, (Option.some.inj h).symm⟩
theorem zW_set {g : GE} {M M' : Mem} {k : Nat} (h : ∀ j, j ≠ k → zCell g M' j = zCell g M j) : (zW g M).set k (g.2.2.1 k, zCell g M' k) = zW g M' := by
  apply List.ext_getElem?
  intro i
  rw [List.getElem?_set]
  by_cases hi : k = i
  · subst hi
    by_cases hk : k < 133
    · rw [if_pos rfl, if_pos (by simpa [zW] using hk), zW_at g M' hk]
    · rw [if_pos rfl, if_neg (by simpa [zW] using hk), List.getElem?_eq_none (by simpa [zW] using hk)]
  · rw [if_neg hi]
    by_cases hk : i < 133
    · rw [zW_at g M hk, zW_at g M' hk, h i (fun e => hi e.symm)]
    · rw [List.getElem?_eq_none (by simpa [zW] using hk), List.getElem?_eq_none (by simpa [zW] using hk)]
def u2 (μ : MU) (k j : Nat) (v : Int32) : MU := fun a => if a = k then upd (μ k) j v else μ a
theorem u2_same (μ : MU) (k j : Nat) (v : Int32) : u2 μ k j v k = upd (μ k) j v := by unfold u2; rw [if_pos rfl]
theorem u2_ne {μ : MU} {k j a : Nat} {v : Int32} (h : a ≠ k) : u2 μ k j v a = μ a := by unfold u2; rw [if_neg h]
/-- a whole row anew -/
def u1 (μ : MU) (k : Nat) (f : Nat → Int32) : MU := fun a => if a = k then f else μ a
theorem u1_same (μ : MU) (k : Nat) (f : Nat → Int32) : u1 μ k f k = f := by unfold u1; rw [if_pos rfl]
theorem u1_ne {μ : MU} {k a : Nat} {f : Nat → Int32} (h : a ≠ k) : u1 μ k f a = μ a := by unfold u1; rw [if_neg h]
theorem zset_x {g : GE} {M : Mem} {k j : Nat} {v : Int32} : (zW g M).set k (g.2.2.1 k, zCell g (u2 M.1 k j v, M.2) k) = zW g (u2 M.1 k j v, M.2) :=
  zW_set (fun i hi => zCell_eq (u2 M.1 k j v, M.2) M (u2_ne hi) rfl rfl)
theorem zset_x1 {g : GE} {M : Mem} {k : Nat} {f : Nat → Int32} : (zW g M).set k (g.2.2.1 k, zCell g (u1 M.1 k f, M.2) k) = zW g (u1 M.1 k f, M.2) :=
  zW_set (fun i hi => zCell_eq (u1 M.1 k f, M.2) M (u1_ne hi) rfl rfl)
theorem zset_m {g : GE} {M : Mem} {k j : Nat} {v : Int32} : (zW g M).set k (g.2.2.1 k, zCell g (M.1, u2 M.2.1 k j v, M.2.2) k) = zW g (M.1, u2 M.2.1 k j v, M.2.2) :=
  zW_set (fun i hi => zCell_eq (M.1, u2 M.2.1 k j v, M.2.2) M rfl (u2_ne hi) rfl)
theorem zset_L {g : GE} {M : Mem} {k : Nat} {f : Nat → Int64} (hu : ∀ j, zkd j = 17 → j = k) : (zW g M).set k (g.2.2.1 k, zCell g (M.1, M.2.1, f, M.2.2.2) k) = zW g (M.1, M.2.1, f, M.2.2.2) :=
  zW_set (fun j hj => by
    have hj : zkd j ≠ 17 := fun h => hj (hu j h)
    unfold zCell
    generalize zkd j = n at hj
    unfold zRend
    split <;> first | rfl | exact absurd rfl hj)
theorem zset_D {g : GE} {M : Mem} {k : Nat} {f : Nat → UInt64} (hu : ∀ j, zkd j = 18 → j = k) : (zW g M).set k (g.2.2.1 k, zCell g (M.1, M.2.1, M.2.2.1, f) k) = zW g (M.1, M.2.1, M.2.2.1, f) :=
  zW_set (fun j hj => by
    have hj : zkd j ≠ 18 := fun h => hj (hu j h)
    unfold zCell
    generalize zkd j = n at hj
    unfold zRend
    split <;> first | rfl | exact absurd rfl hj)
theorem zOne17 {j : Nat} (h : zkd j = 17) : j = 131 := zAll (P := fun j => zkd j = 17 → j = 131) (by decide +kernel) h (by decide) h
theorem zOne18 {j : Nat} (h : zkd j = 18) : j = 132 := zAll (P := fun j => zkd j = 18 → j = 132) (by decide +kernel) h (by decide) h
def zA (g : GE) : Nat → Prop := fun q => g.2.2.2 ≤ q
def zDist (g : GE) : Prop := (∀ i j, i < 133 → j < 133 → g.2.2.1 i = g.2.2.1 j → i = j) ∧ ∀ i, i < 133 → g.2.2.2 ≤ g.2.2.1 i
theorem zDist.D {g : GE} (h : zDist g) (M : Mem) : va_D (zA g) (zW g M) := by
  refine ⟨fun i j p q hi hj e => ?_, fun k q hk => ?_⟩
  · obtain ⟨i1, rfl⟩ := zW_of hi
    obtain ⟨j1, rfl⟩ := zW_of hj
    exact h.1 i j i1 j1 e
  · obtain ⟨k1, rfl⟩ := zW_of hk
    exact h.2 k k1
/-- the texts of the class's throws, by their places -/
def zStr : List (Nat × String) := [(435, "it is refused"), (145, "there is no such position"), (153, "what is not from 0 to 6"), (194, "there is no such place"), (213, "the position has no move"), (218, "there is no such move"), (224, "the position is drawn"), (226, "there is no such outcome"), (234, "none is won"), (236, "the number is below 0"), (247, "there is no such burrow"), (250, "both burrows are one"), (274, "no burrow wins for the fox"), (276, "what is not from 0 to 3"), (302, "there is no such path"), (130, "there is no game"), (341, "the buffer is full"), (352, "the text has a fault"), (363, "what is not from 0 to 2"), (368, "nothing was refused"), (383, "there is no such index"), (312, "no position is won or lost"), (315, "there are no positions"), (317, "what is not from 0 to 10"), (389, "there is nothing to undo"), (400, "there is no snapshot")]
def zNc : List (String × String) := [("java/lang/IllegalArgumentException", "java/util/NoSuchElementException"), ("java/util/NoSuchElementException", "java/lang/IllegalArgumentException"), ("java/lang/IndexOutOfBoundsException", "java/lang/IllegalArgumentException"), ("java/lang/IllegalArgumentException", "java/lang/IndexOutOfBoundsException"), ("java/lang/UnsupportedOperationException", "java/lang/IllegalArgumentException")]
def zFix (g : GE) (U : State) : Prop := va_K g.1 zCl (zTys g) U ∧ (∀ w ∈ TN, va_Nw w U) ∧ (∀ q ∈ zStr, ∃ a, vk_R RX9 q.1 q.2 a U) ∧ ∀ q ∈ zNc, va_Nc q.1 q.2 U
theorem zNw_warm {w : Cond} (hw : zIsN w = true) {s U : State} (hW : s.WarmedH U.vm) (h : va_Nw w s) : va_Nw w U := by
  cases w <;> first | exact va_Nw.warmM hW h | exact va_Nw.warmF hW h | exact va_Nw.warmC hW h | exact va_Nw.warmD hW h | cases hw
theorem zNw_tab {w : Cond} (hw : zIsN w = true) : w.onTables = true := by
  cases w <;> first | rfl | cases hw
theorem zFix.warm {g : GE} {s U : State} (h : zFix g s) (hW : s.WarmedH U.vm) : zFix g U :=
  ⟨va_K.moved hW.alike h.1, fun w hw => zNw_warm (List.mem_filter.mp hw).2 hW (h.2.1 w hw), fun q hq => (h.2.2.1 q hq).imp fun a ha => vk_R.warm hW ha, fun q hq => va_Nc.moved hW.alike (h.2.2.2 q hq)⟩
theorem zFix.same {g : GE} {s U : State} (h : zFix g s) (hv : U.vm = s.vm) : zFix g U :=
  ⟨va_K.moved (by rw [hv]; exact Vm.Alike.refl _) h.1, fun w hw => va_Nw.same (zNw_tab (List.mem_filter.mp hw).2) hv.symm (h.2.1 w hw), fun q hq => (h.2.2.1 q hq).imp fun a ha => vk_R.same hv ha, fun q hq => va_Nc.moved (by rw [hv]; exact Vm.Alike.refl _) (h.2.2.2 q hq)⟩
def zPic (g : GE) (M : Mem) (U : State) (H : Heap) : Prop := va_P g.1 zCl (zW g M) H ∧ vx_Zq Bundle.tN "UNASSIGNED_STACK" Bundle.steD (zA g) U H ∧ vx_Zq Bundle.tN "SUPPRESSED_SENTINEL" Bundle.listD (zA g) U H
theorem zPic.moved {g : GE} {M : Mem} {u U : State} {H : Heap} (h : zPic g M u H) (hvm : u.vm.Alike U.vm) : zPic g M U H := ⟨h.1, vx_Zq.moved hvm h.2.1, vx_Zq.moved hvm h.2.2⟩
theorem zPic.kept {g : GE} {M M' : Mem} {U : State} {H H1 : Heap} (h : zPic g M U H) (hP : va_P g.1 zCl (zW g M') H1) (hq : ∀ a : Nat, a < H.size → ¬ zA g a → H1[a]? = H[a]?) : zPic g M' U H1 := ⟨hP, vx_Zq.kept h.2.1 hq, vx_Zq.kept h.2.2 hq⟩
def zPc (g : GE) (M : Mem) (av : List Value) : Array Value → State → Prop := va_Pc av (fun U => zPic g M U U.heap ∧ zFix g U ∧ zDist g ∧ g.2.2.2 ≤ U.heap.size)
theorem zPc_blind {g : GE} {M : Mem} {av : List Value} : FrameBlind (zPc g M av) := by
  intro a U gf mk q
  obtain ⟨q0, q1, q2, q3, q4⟩ := q
  exact ⟨q0, zPic.moved (U := U.calling gf mk a) q1 (Vm.Alike.refl U.vm), zFix.same (U := U.calling gf mk a) q2 rfl, q3, q4⟩
def zCx (p : Program) (l : Launch) (s : State) (m : MethodId) (args : Array Value) (meth : Method) (c : Code) (g : GE) (own : String) (cc : ByteArray) (nL : Nat) : Prop :=
  p.tables.exec = Jvm.exec ∧ c.code = cc ∧ c.maxLocals = nL ∧ s.vm.findClass own = some m.cls ∧ (∀ w ∈ TB, w.before args s = true) ∧ meth.locks = false ∧ zFix g s ∧ zDist g ∧ g.2.2.2 ≤ s.heap.size
def WM (p : Program) (l : Launch) (e : Env) (R : Room) (s : State) (m : MethodId) (args : Array Value) (below : List Frame) (meth : Method) (c : Code) (g : GE) (nL cells slots : Nat) (Q : State → Prop) (pc : Nat) (lv : List (Nat × Value)) (st : List Value) (M : Mem) : Prop :=
  ∀ (H : Heap) (locs : List Loc) (ls : Array Slot), lv_has ls nL lv → zPic g M s H → va_S (zA g) s.heap H locs → W p l e R s m args below meth c H locs cells slots Q (F0 m pc ls st)
/-- the same of a thing thrown over the frame -/
def WX (p : Program) (l : Launch) (e : Env) (R : Room) (s : State) (m : MethodId) (args : Array Value) (below : List Frame) (meth : Method) (c : Code) (g : GE) (nL cells slots : Nat) (Q : State → Prop) (pc : Nat) (lv : List (Nat × Value)) (E : String) (M : Mem) : Prop :=
  ∀ (H : Heap) (locs : List Loc) (ls : Array Slot) (ce : Cell) (q : Addr) (st : List Value), lv_has ls nL lv → zPic g M s H → va_S (zA g) s.heap H locs → H[q]? = some ce → ce.vm = .none → s.vm.findClass E = some ce.cls → vx_W p l e R s m args below meth c H locs cells slots Q (F0 m pc ls st) q
/-- posts: Qp tells answer and memory -/
def zB (g : GE) : Mem → State → Prop := fun u t => zPic g u t t.heap
abbrev zQi (g : GE) (Qp : Int32 → Mem → Prop) : Array Value → State → Outcome → State → Prop := va_Qi Qp (zB g) (zA g)
abbrev zQl (g : GE) (Qp : Int64 → Mem → Prop) : Array Value → State → Outcome → State → Prop := va_Ql Qp (zB g) (zA g)
abbrev zQf (g : GE) (Qp : UInt32 → Mem → Prop) : Array Value → State → Outcome → State → Prop := va_Qf Qp (zB g) (zA g)
abbrev zQd (g : GE) (Qp : UInt64 → Mem → Prop) : Array Value → State → Outcome → State → Prop := va_Qd Qp (zB g) (zA g)
abbrev zQv (g : GE) (Qp : Mem → Prop) : Array Value → State → Outcome → State → Prop := va_Qv Qp (zB g) (zA g)
/-- a reference or null: the object's number -/
abbrev zQq (g : GE) (Qp : Option Nat → Mem → Prop) : Array Value → State → Outcome → State → Prop := va_Qq (fun r u => ∃ q, r = q.map g.2.2.1 ∧ Qp q u) (zB g) (zA g)
abbrev zXC (g : GE) (Xp : String → Mem → Prop) : String → State → State → Prop := vx_X (fun _ : Mem => True) (fun E u t => Xp E u ∧ zPic g u t t.heap) (zA g)
