/-! what of the reference's parts of the other claim the class's side needs -/
theorem u2_at {μ : MU} {k j : Nat} {x : Int32} : u2 μ k j x k j = x := by rw [u2_same]; exact pk_us
theorem u2_o {μ : MU} {k j a i : Nat} {x : Int32} (h : a ≠ k ∨ i ≠ j) : u2 μ k j x a i = μ a i := by
  by_cases e : a = k
  · subst e
    rw [u2_same]
    exact pk_un (h.resolve_left (fun q => q rfl))
  · rw [u2_ne e]
def outI (w : Nat) : Int32 := if w = 0 then 0 else if w % 2 = 1 then 2 else 1
def OIs (v : MU) (w : Nat → Nat) : Prop := ∀ q, q < 1296 → v 126 q = outI (w q) ∧ v 127 q = nv (w q)
theorem outI_2 (w : Nat) : outI w = 2 ↔ w % 2 = 1 := by
  unfold outI
  by_cases h : w = 0
  · rw [if_pos h, h]; exact ⟨fun q => absurd q (by decide +kernel), fun q => absurd q (by decide)⟩
  · rw [if_neg h]
    split
    · rename_i h1; exact ⟨fun _ => h1, fun _ => rfl⟩
    · rename_i h1; exact ⟨fun q => absurd q (by decide +kernel), fun q => absurd q h1⟩
theorem outI_1 (w : Nat) : outI w = 1 ↔ w ≠ 0 ∧ w % 2 = 0 := by
  unfold outI
  by_cases h : w = 0
  · rw [if_pos h, h]; exact ⟨fun q => absurd q (by decide +kernel), fun q => absurd rfl q.1⟩
  · rw [if_neg h]
    split
    · exact ⟨fun q => absurd q (by decide +kernel), fun q => by omega⟩
    · exact ⟨fun _ => ⟨h, by omega⟩, fun _ => rfl⟩
def cntR (c : Cfg) (n : Nat) : Nat := fb_ct (fun q => posB c q && decide (rd c n q ≠ 0)) 1296
theorem cntR_le (c : Cfg) (n : Nat) : cntR c n ≤ 1296 := fb_ct_le _ _
theorem ct_lt {p q : Nat → Bool} : ∀ {n : Nat}, (∀ k, k < n → p k = true → q k = true) → (∃ k, k < n ∧ p k = false ∧ q k = true) → fb_ct p n < fb_ct q n
  | 0, _, ⟨k, h, _⟩ => by omega
  | n + 1, h1, ⟨k, h2, h3, h4⟩ => by
    rw [fb_ct_succ, fb_ct_succ]
    by_cases e : k = n
    · subst e
      have := fb_ct_sub (p := p) (q := q) (n := k) (fun j hj => h1 j (by omega))
      rw [h3, h4]
      simp only [Bool.false_eq_true, if_false, if_true]
      omega
    · have := ct_lt (p := p) (q := q) (n := n) (fun j hj => h1 j (by omega)) ⟨k, by omega, h3, h4⟩
      have h5 := h1 n (by omega)
      cases e1 : p n
      · simp only [Bool.false_eq_true, if_false]
        omega
      · rw [h5 e1]
        omega
theorem cntR_more {c : Cfg} {n : Nat} (h : ∃ q, posB c q = true ∧ rd c (n + 1) q ≠ rd c n q) : cntR c n < cntR c (n + 1) := by
  obtain ⟨q, h1, h2⟩ := h
  refine ct_lt (fun k _ hk => ?_) ⟨q, (posB_spec.mp h1).1, ?_, ?_⟩
  · rw [Bool.and_eq_true, decide_eq_true_eq] at hk ⊢
    exact ⟨hk.1, by rw [rd_keep hk.2]; exact hk.2⟩
  · have : rd c n q = 0 := by
      rcases Nat.eq_zero_or_pos (rd c n q) with z | z
      · exact z
      · exact absurd (rd_keep (by omega)) h2
    rw [this, Bool.and_eq_false_iff]
    exact Or.inr (decide_eq_false (fun z => z rfl))
  · have : rd c (n + 1) q ≠ 0 := fun z => by
      rcases Nat.eq_zero_or_pos (rd c n q) with z2 | z2
      · exact h2 (by rw [z, z2])
      · rw [rd_keep (by omega)] at z; omega
    rw [Bool.and_eq_true, decide_eq_true_eq]
    exact ⟨h1, this⟩
/-- the memory shows the values f at the positions -/
def SIs (v : MU) (c : Cfg) (f : Nat → Nat) : Prop := OIs v (fun q => if posB c q = true then f q else 0)
theorem nv_le {a b : Nat} (ha : a < 2 ^ 30) (hb : b < 2 ^ 30) : nv a ≤ nv b ↔ a ≤ b := by
  rw [fa_le]
  unfold nv
  rw [show (1 : Int32) = nI 1 from rfl, pk_sub_toInt ha (by decide), pk_sub_toInt hb (by decide)]
  omega
theorem nv_lt {a b : Nat} (ha : a < 2 ^ 30) (hb : b < 2 ^ 30) : nv a < nv b ↔ a < b := by
  rw [fa_lt]
  unfold nv
  rw [show (1 : Int32) = nI 1 from rfl, pk_sub_toInt ha (by decide), pk_sub_toInt hb (by decide)]
  omega
