/-- the first bit, and the rest -/
theorem first_bit {x : Nat} (hx : x ≠ 0) : ∃ k, x.testBit k = true ∧ ∀ j, j < k → x.testBit j = false := by
  obtain ⟨k, h1, h2⟩ := pk_least (fun k => x.testBit k = true) (Nat.exists_testBit_of_ne_zero hx)
  exact ⟨k, h1, fun j hj => by cases e : x.testBit j with | false => rfl | true => exact absurd e (h2 j hj)⟩
theorem low_form {x k : Nat} (h1 : x.testBit k = true) (h2 : ∀ j, j < k → x.testBit j = false) : ∃ y, x = 2 ^ (k + 1) * y + 2 ^ k := by
  refine ⟨x / 2 ^ (k + 1), ?_⟩
  have e : x % 2 ^ (k + 1) = 2 ^ k := Nat.eq_of_testBit_eq fun i => by
    rw [Nat.testBit_mod_two_pow, Nat.testBit_two_pow]
    by_cases hi : i < k
    · rw [h2 i hi, Bool.and_false, decide_eq_false (by omega)]
    · by_cases hk : i = k
      · subst hk; rw [h1, decide_eq_true (by omega), decide_eq_true rfl]; rfl
      · rw [decide_eq_false (show ¬ i < k + 1 by omega), decide_eq_false (by omega)]; rfl
  have := Nat.div_add_mod x (2 ^ (k + 1))
  omega
