/-! THE SOLUTION of a configuration -/
theorem Sol_ex {c : Cfg} (hc : CfgOk c) : ∃ f, Sol c f ∧ ∀ q, f q < 2 ^ 20 := by
  have H : ∀ n, (∃ m, m ≤ n ∧ ∀ p, posB c p = true → rd c (m + 1) p = rd c m p) ∨ n + 1 ≤ cntR c (n + 1) := by
    intro n
    induction n with
    | zero =>
      by_cases h : ∀ p, posB c p = true → rd c (0 + 1) p = rd c 0 p
      · exact Or.inl ⟨0, Nat.le_refl _, h⟩
      · have : ∃ q, posB c q = true ∧ rd c (0 + 1) q ≠ rd c 0 q := by
          refine Classical.byContradiction (fun z => h (fun p hp => Classical.byContradiction (fun z2 => z ⟨p, hp, z2⟩)))
        have := cntR_more this
        exact Or.inr (by omega)
    | succ n ih =>
      rcases ih with ⟨m, h1, h2⟩ | ih
      · exact Or.inl ⟨m, by omega, h2⟩
      · by_cases h : ∀ p, posB c p = true → rd c (n + 1 + 1) p = rd c (n + 1) p
        · exact Or.inl ⟨n + 1, Nat.le_refl _, h⟩
        · have : ∃ q, posB c q = true ∧ rd c (n + 1 + 1) q ≠ rd c (n + 1) q := by
            refine Classical.byContradiction (fun z => h (fun p hp => Classical.byContradiction (fun z2 => z ⟨p, hp, z2⟩)))
          have := cntR_more this
          exact Or.inr (by omega)
  rcases H 1296 with ⟨m, h1, h2⟩ | h
  · exact ⟨rd c m, rd_sol hc h2, fun q => by have := rd_le (c := c) (p := q) m; omega⟩
  · have := cntR_le c (1296 + 1)
    omega
theorem Sol_cong {c : Cfg} (hc : CfgOk c) {f g : Nat → Nat} (h : ∀ q, posB c q = true → f q = g q) (hf : Sol c f) : Sol c g := fun p hp k => by
  rw [← h p hp, hf p hp k]
  exact ⟨Cnd_cong hc hp (fun q hq j _ => by rw [h q hq]), Cnd_cong hc hp (fun q hq j _ => by rw [h q hq])⟩
/-- the solution; 0 for what is no position -/
noncomputable def slv (c : Cfg) (q : Nat) : Nat := Classical.epsilon (fun w : Nat => ∃ f : Nat → Nat, (Sol c f ∧ ∀ q, f q < 2 ^ 20) ∧ w = if posB c q = true then f q else 0)
theorem slv_is {c : Cfg} (hc : CfgOk c) {f : Nat → Nat} (hf : Sol c f) (q : Nat) : slv c q = if posB c q = true then f q else 0 := by
  have h : ∃ w : Nat, ∃ f : Nat → Nat, (Sol c f ∧ ∀ q, f q < 2 ^ 20) ∧ w = if posB c q = true then f q else 0 := by
    obtain ⟨g, hg⟩ := Sol_ex hc
    exact ⟨_, g, hg, rfl⟩
  obtain ⟨g, hg, e⟩ := Classical.epsilon_spec h
  have e' : slv c q = (if posB c q = true then g q else 0) := e
  rw [e']
  by_cases hp : posB c q = true
  · rw [if_pos hp, if_pos hp]; exact Sol_one hc hg.1 hf hp
  · rw [if_neg hp, if_neg hp]
theorem slv_eq {c : Cfg} (hc : CfgOk c) {f : Nat → Nat} (hf : Sol c f) {q : Nat} (hq : posB c q = true) : f q = slv c q := by rw [slv_is hc hf q, if_pos hq]
theorem slv_sol {c : Cfg} (hc : CfgOk c) : Sol c (slv c) := by
  obtain ⟨f, hf, -⟩ := Sol_ex hc
  exact Sol_cong hc (fun q hq => slv_eq hc hf hq) hf
theorem slv_lt {c : Cfg} (hc : CfgOk c) (q : Nat) : slv c q < 2 ^ 20 := by
  obtain ⟨f, hf, hb⟩ := Sol_ex hc
  rw [slv_is hc hf q]
  split
  · exact hb q
  · decide
theorem slv_lt30 {c : Cfg} (hc : CfgOk c) (q : Nat) : slv c q < 2 ^ 30 := Nat.lt_trans (slv_lt hc q) (by decide)
theorem slv_out {c : Cfg} (hc : CfgOk c) {q : Nat} (h : posB c q = false) : slv c q = 0 := by
  obtain ⟨f, hf, hb⟩ := Sol_ex hc
  rw [slv_is hc hf q, h, if_neg Bool.false_ne_true]
theorem TIs_slv {c : Cfg} (hc : CfgOk c) {u : MU} {k : Nat} {f : Nat → Nat} (hf : Sol c f) (h : TIs u k c f) : TIs u k c (slv c) := fun q hq => by rw [← slv_eq hc hf hq]; exact h q hq
/-- the reference's rows show the solution -/
theorem SIs_slv {c : Cfg} (hc : CfgOk c) {v : MU} {f : Nat → Nat} (hf : Sol c f) (h : SIs v c f) : OIs v (slv c) := fun q hq => by
  rw [slv_is hc hf q]
  exact h q hq
theorem OIs_SIs {c : Cfg} (hc : CfgOk c) {v : MU} (h : OIs v (slv c)) : SIs v c (slv c) := fun q hq => by
  have e : (if posB c q = true then slv c q else 0) = slv c q := by
    cases z : posB c q
    · rw [slv_out hc z]; rfl
    · rfl
  show v 126 q = outI (if posB c q = true then slv c q else 0) ∧ v 127 q = nv (if posB c q = true then slv c q else 0)
  rw [e]
  exact h q hq
/-- a move to a lost position: won; all moves to won ones: lost -/
theorem Sol_w {c : Cfg} (hc : CfgOk c) {f : Nat → Nat} (hf : Sol c f) {p : Nat} (hp : posB c p = true) (h : ∃ k, k ∈ mvs c p ∧ f (tgt p k) % 2 = 1) : f p ≠ 0 ∧ f p % 2 = 0 := by
  obtain ⟨k, hk, h1⟩ := h
  obtain ⟨w, ⟨k2, hk2, e2, o2⟩, lo⟩ := pk_least (fun w => ∃ k, k ∈ mvs c p ∧ f (tgt p k) = w ∧ w % 2 = 1) ⟨_, k, hk, rfl, h1⟩
  have : f p = w + 1 := by
    rw [hf p hp w]
    unfold Cnd
    rw [if_neg (by omega)]
    refine ⟨⟨_, _, (mvs_mem.mp hk2).2, e2⟩, fun a b m j j1 j2 j3 => ?_⟩
    obtain ⟨m1, m2⟩ := mv_lt8 hc hp m
    exact lo (j + 1) j2 ⟨_, m1, by rw [m2]; exact j3, by omega⟩
  omega
theorem Sol_l {c : Cfg} (hc : CfgOk c) {f : Nat → Nat} (hf : Sol c f) (hb : ∀ q, f q < 2 ^ 20) {p : Nat} (hp : posB c p = true) (h : ∀ k, k ∈ mvs c p → f (tgt p k) ≠ 0 ∧ f (tgt p k) % 2 = 0) : f p % 2 = 1 := by
  obtain ⟨w, h1, lo⟩ := pk_least (fun w => ∀ k, k ∈ mvs c p → f (tgt p k) ≤ w) ⟨2 ^ 20, fun k _ => Nat.le_of_lt (hb _)⟩
  have hall : ∀ a b, mvB c p a b = true → f (sh p a b) ≠ 0 ∧ f (sh p a b) % 2 = 0 ∧ f (sh p a b) ≤ w := fun a b m => by
    obtain ⟨m1, m2⟩ := mv_lt8 hc hp m
    have x1 := h _ m1
    have x2 := h1 _ m1
    rw [m2] at x1 x2
    exact ⟨x1.1, x1.2, x2⟩
  have hw : w % 2 = 0 ∧ (w = 0 ∨ ∃ a b, mvB c p a b = true ∧ f (sh p a b) = w) := by
    rcases Nat.eq_zero_or_pos w with z | z
    · exact ⟨by omega, Or.inl z⟩
    · have : ∃ k, k ∈ mvs c p ∧ ¬ f (tgt p k) ≤ w - 1 := Classical.byContradiction (fun q => lo (w - 1) (by omega) (fun k hk => Classical.byContradiction (fun q2 => q ⟨k, hk, q2⟩)))
      obtain ⟨k, hk, h2⟩ := this
      have h3 := h1 k hk
      have h4 := h k hk
      have e : f (tgt p k) = w := by omega
      exact ⟨by omega, Or.inr ⟨_, _, (mvs_mem.mp hk).2, e⟩⟩
  have : f p = w + 1 := by
    rw [hf p hp w]
    unfold Cnd
    rw [if_pos hw.1]
    refine ⟨fun a b m => ?_, hw.2⟩
    obtain ⟨q1, q2, q3⟩ := hall a b m
    exact ⟨f (sh p a b) - 1, by omega, by omega, by omega⟩
  omega
