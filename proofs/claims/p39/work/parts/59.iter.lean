/-! THE FIRST BIT AND THE REST, the bits of a long in their order -/
theorem lN_neg {x : Nat} (hx : x < 2 ^ 64) : -(lN x) = lN (2 ^ 64 - x) := by
  apply Int64.toBitVec_inj.mp
  apply BitVec.eq_of_toNat_eq
  rw [Int64.toBitVec_neg, BitVec.toNat_neg, wb_tn hx, wb_tb, BitVec.toNat_ofNat]
theorem odd_test (y j : Nat) : (2 * y + 1).testBit (j + 1) = y.testBit j := by
  rw [Nat.testBit_succ]
  congr 1
  omega
theorem low_test (k y i : Nat) : (2 ^ k * (2 * y + 1)).testBit i = (decide (k ≤ i) && (decide (i = k) || y.testBit (i - k - 1))) := by
  rw [Nat.testBit_two_pow_mul]
  by_cases h : k ≤ i
  · rw [decide_eq_true h, Bool.true_and, Bool.true_and]
    by_cases h2 : i = k
    · subst h2
      rw [Nat.sub_self, decide_eq_true rfl, Bool.true_or, Nat.testBit_zero]
      exact decide_eq_true (by omega)
    · rw [decide_eq_false h2, Bool.false_or]
      obtain ⟨j, hj⟩ : ∃ j, i - k = j + 1 := ⟨i - k - 1, by omega⟩
      rw [hj, odd_test]
      rfl
  · rw [decide_eq_false h, Bool.false_and, Bool.false_and]
theorem low_form2 {x k : Nat} (h1 : x.testBit k = true) (h2 : ∀ j, j < k → x.testBit j = false) : ∃ y, x = 2 ^ k * (2 * y + 1) := by
  obtain ⟨y, hy⟩ := low_form h1 h2
  exact ⟨y, by rw [hy, Nat.pow_succ, Nat.mul_add, Nat.mul_one, Nat.mul_assoc]⟩
theorem low_bit {x k : Nat} (hx : x < 2 ^ 64) (h1 : x.testBit k = true) (h2 : ∀ j, j < k → x.testBit j = false) : x &&& (2 ^ 64 - x) = 2 ^ k := by
  have hk : k < 64 := by
    rcases Nat.lt_or_ge k 64 with h | h
    · exact h
    · rw [Nat.testBit_lt_two_pow (Nat.lt_of_lt_of_le hx (Nat.pow_le_pow_right (by decide) h))] at h1; cases h1
  obtain ⟨y, hy⟩ := low_form2 h1 h2
  have hp : 2 ^ 64 = 2 ^ k * (2 * 2 ^ (63 - k)) := by rw [← Nat.pow_succ', ← Nat.pow_add]; congr 1; omega
  have hy2 : 2 * y + 1 < 2 * 2 ^ (63 - k) := by
    rw [hy, hp] at hx
    exact Nat.lt_of_mul_lt_mul_left hx
  have hyl : y < 2 ^ (63 - k) := by omega
  have e : 2 ^ 64 - x = 2 ^ k * (2 * (2 ^ (63 - k) - (y + 1)) + 1) := by
    rw [hp, hy, ← Nat.mul_sub]
    congr 1
    omega
  rw [e]
  refine Nat.eq_of_testBit_eq fun i => ?_
  rw [Nat.testBit_and, hy, low_test, low_test, Nat.testBit_two_pow, Nat.testBit_two_pow_sub_succ hyl]
  by_cases h : k ≤ i
  · rw [decide_eq_true h]
    by_cases h3 : i = k
    · rw [decide_eq_true h3, decide_eq_true h3.symm]; rfl
    · rw [decide_eq_false h3, decide_eq_false (show ¬ k = i from fun q => h3 q.symm)]
      cases y.testBit (i - k - 1) <;> simp
  · rw [decide_eq_false h, decide_eq_false (show ¬ k = i by omega)]; rfl
theorem ct_low : ∀ k, k < 64 → ctb (2 ^ k - 1) 64 = k := by decide +kernel
theorem s_firstMove {x k : Nat} (hx : x < 2 ^ 64) (h1 : x.testBit k = true) (h2 : ∀ j, j < k → x.testBit j = false) {Q : Int32 → Prop} (h : Q (nI k)) : w_X9_firstMove (lN x) Q := by
  have hk : k < 64 := by
    rcases Nat.lt_or_ge k 64 with h | h
    · exact h
    · rw [Nat.testBit_lt_two_pow (Nat.lt_of_lt_of_le hx (Nat.pow_le_pow_right (by decide) h))] at h1; cases h1
  unfold w_X9_firstMove
  rw [lN_neg hx, fb_andL, low_bit hx h1 h2, show (1 : Int64) = lN 1 from rfl, lN_sub Nat.one_le_two_pow]
  refine s_bitCountL (Nat.lt_of_le_of_lt (Nat.sub_le _ _) (Nat.pow_lt_pow_right (by decide) hk)) ?_
  rw [ct_low k hk]
  exact h
/-- without its first bit -/
def rest1 (x : Nat) : Nat := x &&& (x - 1)
theorem rest1_lt {x : Nat} (hx : x < 2 ^ 64) : rest1 x < 2 ^ 64 := Nat.lt_of_le_of_lt Nat.and_le_left hx
theorem rest1_test {x k : Nat} (h1 : x.testBit k = true) (h2 : ∀ j, j < k → x.testBit j = false) (i : Nat) : (rest1 x).testBit i = (x.testBit i && !decide (i = k)) := by
  obtain ⟨y, hy⟩ := low_form h1 h2
  have hp := Nat.one_le_two_pow (n := k)
  have e : x - 1 = 2 ^ (k + 1) * y + (2 ^ k - 1) := by omega
  have l1 : 2 ^ k - 1 < 2 ^ (k + 1) := by rw [Nat.pow_succ]; omega
  have l2 : 2 ^ k < 2 ^ (k + 1) := by rw [Nat.pow_succ]; omega
  unfold rest1
  rw [Nat.testBit_and, e, Nat.testBit_two_pow_mul_add _ l1, Nat.testBit_two_pow_sub_one]
  have hx := hy ▸ Nat.testBit_two_pow_mul_add y l2 i
  rw [hx, Nat.testBit_two_pow]
  by_cases q : i < k + 1
  · rw [if_pos q, if_pos q]
    by_cases q2 : i = k
    · rw [decide_eq_true q2, decide_eq_true q2.symm, decide_eq_false (show ¬ i < k by omega)]; rfl
    · rw [decide_eq_false q2, decide_eq_false (fun z => q2 z.symm)]; rfl
  · rw [if_neg q, if_neg q, decide_eq_false (show ¬ i = k by omega)]
    cases y.testBit (i - (k + 1)) <;> rfl
theorem s_withoutFirst {x : Nat} (h0 : x ≠ 0) {Q : Int64 → Prop} (h : Q (lN (rest1 x))) : w_X9_withoutFirst (lN x) Q := by
  unfold w_X9_withoutFirst
  rw [show (1 : Int64) = lN 1 from rfl, lN_sub (by omega), fb_andL]
  exact h
/-- the bits from i on, in their order -/
def bl (x : Nat) : Nat → Nat → List Nat
  | 0, _ => []
  | n + 1, i => if x.testBit i = true then i :: bl x n (i + 1) else bl x n (i + 1)
theorem bl_cong {x y : Nat} : ∀ n i, (∀ j, i ≤ j → x.testBit j = y.testBit j) → bl x n i = bl y n i
  | 0, _, _ => rfl
  | n + 1, i, h => by rw [bl, bl, h i (Nat.le_refl i), bl_cong n (i + 1) (fun j hj => h j (by omega))]
theorem bl_first {x k : Nat} (h1 : x.testBit k = true) (h2 : ∀ j, j < k → x.testBit j = false) : ∀ n i, i ≤ k → k < i + n → bl x n i = k :: bl (rest1 x) n i
  | 0, i, hi, hk => by omega
  | n + 1, i, hi, hk => by
    have t := rest1_test h1 h2 i
    rw [bl, bl, t]
    by_cases e : i = k
    · subst e
      rw [h1, decide_eq_true rfl, if_pos rfl, Bool.not_true, Bool.and_false, if_neg Bool.false_ne_true]
      rw [bl_cong n (i + 1) (fun j hj => by rw [rest1_test h1 h2 j, decide_eq_false (show ¬ j = i by omega), Bool.not_false, Bool.and_true])]
    · rw [h2 i (by omega), Bool.false_and, if_neg Bool.false_ne_true, if_neg Bool.false_ne_true]
      exact bl_first h1 h2 n (i + 1) (by omega) (by omega)
theorem bl_mem {x : Nat} : ∀ n i j, j ∈ bl x n i ↔ i ≤ j ∧ j < i + n ∧ x.testBit j = true
  | 0, i, j => by rw [bl]; exact ⟨fun h => absurd h List.not_mem_nil, fun h => by omega⟩
  | n + 1, i, j => by
    rw [bl]
    by_cases e : x.testBit i = true
    · rw [if_pos e, List.mem_cons, bl_mem n (i + 1) j]
      constructor
      · rintro (h | ⟨h, h3, h4⟩)
        · subst h; exact ⟨Nat.le_refl _, by omega, e⟩
        · exact ⟨by omega, by omega, h4⟩
      · rintro ⟨h, h3, h4⟩
        by_cases q : j = i
        · exact Or.inl q
        · exact Or.inr ⟨by omega, by omega, h4⟩
    · rw [if_neg e, bl_mem n (i + 1) j]
      constructor
      · rintro ⟨h, h3, h4⟩; exact ⟨by omega, by omega, h4⟩
      · rintro ⟨h, h3, h4⟩
        by_cases q : j = i
        · subst q; exact absurd h4 e
        · exact ⟨by omega, by omega, h4⟩
theorem bl_len {x : Nat} : ∀ n i, (bl x n i).length = fb_ct (fun j => x.testBit (i + j)) n
  | 0, _ => rfl
  | n + 1, i => by
    have h := fb_ct_split (fun j => x.testBit (i + j)) 1 n
    rw [Nat.add_comm 1 n] at h
    rw [h, bl]
    have e1 : fb_ct (fun j => x.testBit (i + j)) 1 = if x.testBit i then 1 else 0 := by rw [fb_ct_succ]; show 0 + _ = _; rw [Nat.add_zero, Nat.zero_add]
    have e2 : (fun j => x.testBit (i + (1 + j))) = fun j => x.testBit (i + 1 + j) := funext fun j => by rw [Nat.add_assoc]
    rw [e1, e2, ← bl_len n (i + 1)]
    cases x.testBit i
    · rw [if_neg Bool.false_ne_true, if_neg Bool.false_ne_true, Nat.zero_add]
    · rw [if_pos rfl, if_pos rfl, List.length_cons, Nat.add_comm]
theorem bl_ct (x : Nat) : (bl x 64 0).length = ctb x 64 := by
  rw [bl_len]
  unfold ctb
  exact fb_ct_cong (fun j _ => by rw [Nat.zero_add])
theorem bl_nil {x : Nat} (hx : x < 2 ^ 64) (h : bl x 64 0 = []) : x = 0 := by
  rcases Nat.eq_zero_or_pos x with h0 | h0
  · exact h0
  · obtain ⟨k, h1, -⟩ := first_bit (show x ≠ 0 by omega)
    have hk : k < 64 := by
      rcases Nat.lt_or_ge k 64 with h | h
      · exact h
      · rw [Nat.testBit_lt_two_pow (Nat.lt_of_lt_of_le hx (Nat.pow_le_pow_right (by decide) h))] at h1; cases h1
    have := (bl_mem 64 0 k).mpr ⟨Nat.zero_le _, by omega, h1⟩
    rw [h] at this
    exact absurd this List.not_mem_nil
/-- one step through the bits: the first of the list is told, the rest is left -/
theorem bl_step {x k : Nat} {t : List Nat} (hx : x < 2 ^ 64) (h : bl x 64 0 = k :: t) : k < 64 ∧ x ≠ 0 ∧ x.testBit k = true ∧ (∀ j, j < k → x.testBit j = false) ∧ bl (rest1 x) 64 0 = t := by
  have h0 : x ≠ 0 := fun q => by
    subst q
    have : k ∈ bl 0 64 0 := by rw [h]; exact List.mem_cons_self
    have := ((bl_mem 64 0 k).mp this).2.2
    rw [Nat.zero_testBit] at this; cases this
  obtain ⟨j, h1, h2⟩ := first_bit h0
  have hj : j < 64 := by
    rcases Nat.lt_or_ge j 64 with h | h
    · exact h
    · rw [Nat.testBit_lt_two_pow (Nat.lt_of_lt_of_le hx (Nat.pow_le_pow_right (by decide) h))] at h1; cases h1
  have e := bl_first h1 h2 64 0 (Nat.zero_le _) (by omega)
  rw [h] at e
  obtain ⟨e1, e2⟩ := List.cons.inj e
  subst e1
  exact ⟨hj, h0, h1, h2, e2.symm⟩
