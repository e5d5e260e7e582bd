/-! THE REFERENCE'S BEST PLACE is the class's best move -/
theorem Sol_won {c : Cfg} {f : Nat → Nat} (hf : Sol c f) {p : Nat} (hp : posB c p = true) (h : f p ≠ 0) (he : f p % 2 = 0) : (∃ a b, mvB c p a b = true ∧ f (sh p a b) = f p - 1) ∧ ∀ a b, mvB c p a b = true → f (sh p a b) % 2 = 1 → f p - 1 ≤ f (sh p a b) := by
  obtain ⟨k, hk⟩ : ∃ k, f p = k + 1 := ⟨f p - 1, by omega⟩
  have hC := (hf p hp k).mp hk
  unfold Cnd at hC
  rw [if_neg (by omega)] at hC
  rw [hk, Nat.add_sub_cancel]
  refine ⟨hC.1, fun a b m ho => ?_⟩
  rcases Nat.lt_or_ge (f (sh p a b)) k with z | z
  · exact absurd (show f (sh p a b) = (f (sh p a b) - 1) + 1 by omega) (hC.2 a b m (f (sh p a b) - 1) (by omega) (by omega))
  · exact z
theorem Sol_lost {c : Cfg} {f : Nat → Nat} (hf : Sol c f) {p : Nat} (hp : posB c p = true) (he : f p % 2 = 1) : (∀ a b, mvB c p a b = true → f (sh p a b) ≠ 0 ∧ f (sh p a b) % 2 = 0 ∧ f (sh p a b) ≤ f p - 1) ∧ (f p = 1 ∨ ∃ a b, mvB c p a b = true ∧ f (sh p a b) = f p - 1) := by
  obtain ⟨k, hk⟩ : ∃ k, f p = k + 1 := ⟨f p - 1, by omega⟩
  have hC := (hf p hp k).mp hk
  unfold Cnd at hC
  rw [if_pos (by omega)] at hC
  rw [hk, Nat.add_sub_cancel]
  refine ⟨fun a b m => ?_, ?_⟩
  · obtain ⟨j, j1, j2, j3⟩ := hC.1 a b m
    omega
  · rcases hC.2 with z | z
    · exact Or.inl (by omega)
    · exact Or.inr z
