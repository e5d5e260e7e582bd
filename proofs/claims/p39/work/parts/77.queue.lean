/-! THE QUEUE, without a machine: f the values, op what is open, T what is told, E the moves whose target is worked off -/
def tgt (q k : Nat) : Nat := sh q (k / 8) (k % 8)
/-- the move as a way back, and back -/
def swp (k : Nat) : Nat := 8 * (k % 8) + k / 8
/-- moves whose target stands among the first i, or is p by one of the ways W -/
def Eb (T : List Nat) (i p : Nat) (W : List Nat) (q k : Nat) : Bool := decide (tgt q k ∈ T.take i) || (decide (tgt q k = p) && decide (swp k ∈ W))
def QOk (c : Cfg) (f op : Nat → Nat) (T : List Nat) (i p : Nat) (W : List Nat) (v : Nat) : Prop :=
  T.Nodup ∧ (∀ q, q ∈ T ↔ posB c q = true ∧ f q ≠ 0) ∧ T.Pairwise (fun x y => f x ≤ f y) ∧ (∀ q, q ∈ T → f q ≤ v + 1) ∧
  (∀ q, q ∈ T → Cnd c f (f q - 1) q) ∧
  (∀ q, posB c q = true → f q = 0 → (∀ k, k ∈ mvs c q → Eb T i p W q k = true → wonV (f (tgt q k)) = true) ∧ op q = (mvs c q).countP (fun k => !Eb T i p W q k) ∧ 0 < op q) ∧
  (∀ (j q : Nat), T[j]? = some q → f q ≤ j + 1) ∧ (∀ q, posB c q = false → f q = 0) ∧ T.length = (lp c).countP (fun q => decide (f q ≠ 0))
theorem swp_swp {k : Nat} (h : k < 64) : swp (swp k) = k := by unfold swp; omega
theorem swp_lt {k : Nat} (h : k < 64) : swp k < 64 := by unfold swp; omega
/-- a way of p is a move of the position behind it, and leads to p -/
theorem way_move {c : Cfg} (hc : CfgOk c) {p w : Nat} (hp : posB c p = true) (hw : w ∈ wbs c p) : posB c (sh p (w / 8) (w % 8)) = true ∧ swp w ∈ mvs c (sh p (w / 8) (w % 8)) ∧ tgt (sh p (w / 8) (w % 8)) (swp w) = p := by
  obtain ⟨w1, w2⟩ := wbs_mem.mp hw
  obtain ⟨h1, h2, h3, -, -, -⟩ := wb_mv hc hp w2
  have e1 : swp w / 8 = w % 8 := by unfold swp; omega
  have e2 : swp w % 8 = w / 8 := by unfold swp; omega
  refine ⟨h1, mvs_mem.mpr ⟨swp_lt w1, by rw [e1, e2]; exact h2⟩, ?_⟩
  unfold tgt
  rw [e1, e2]
  exact h3
/-- a move of q is a way of its target, and leads back to q -/
theorem move_way {c : Cfg} (hc : CfgOk c) {q k : Nat} (hq : posB c q = true) (hk : k ∈ mvs c q) : posB c (tgt q k) = true ∧ swp k ∈ wbs c (tgt q k) ∧ sh (tgt q k) (swp k / 8) (swp k % 8) = q := by
  obtain ⟨k1, k2⟩ := mvs_mem.mp hk
  obtain ⟨h1, h2, h3, -, -, -⟩ := mv_wb hc hq k2
  have e1 : swp k / 8 = k % 8 := by unfold swp; omega
  have e2 : swp k % 8 = k / 8 := by unfold swp; omega
  refine ⟨h1, wbs_mem.mpr ⟨swp_lt k1, by rw [e1, e2]; exact h2⟩, ?_⟩
  rw [e1, e2]
  exact h3
