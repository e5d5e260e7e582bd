/-! bestPlace tells the class's best move -/
/-- what the fold keeps: the first among the best so far -/
def BInv (fp : Nat) (l : List Nat) (B : Option (Nat × Nat)) : Prop := match B with
  | none => ∀ j w : Nat, l[j]? = some w → isB fp w = false
  | some (b, y) => l[b]? = some y ∧ isB fp y = true ∧ (∀ j w : Nat, j < b → l[j]? = some w → isB fp w = true → fp ≠ 0 ∧ (fp % 2 = 0 → y < w) ∧ (fp % 2 = 1 → w < y)) ∧ ∀ j w : Nat, l[j]? = some w → isB fp w = true → (fp ≠ 0 → fp % 2 = 0 → y ≤ w) ∧ (fp % 2 = 1 → w ≤ y)
theorem BInv_step {fp : Nat} {d : List Nat} {B : Option (Nat × Nat)} {w : Nat} (h : BInv fp d B) : BInv fp (d ++ [w]) (bstep fp B d.length w) := by
  have get : ∀ {j : Nat} {x : Nat}, (d ++ [w])[j]? = some x → d[j]? = some x ∧ j < d.length ∨ j = d.length ∧ x = w := fun {j x} hj => by
    rcases Nat.lt_or_ge j d.length with z | z
    · rw [List.getElem?_append_left z] at hj; exact Or.inl ⟨hj, z⟩
    · rw [List.getElem?_append_right z] at hj
      have : j - d.length = 0 := by
        have := (List.getElem?_eq_some_iff.mp hj).1
        rw [List.length_singleton] at this; omega
      rw [this] at hj
      cases hj
      exact Or.inr ⟨by omega, rfl⟩
  have last : (d ++ [w])[d.length]? = some w := by rw [List.getElem?_append_right (Nat.le_refl _), Nat.sub_self]; rfl
  unfold bstep
  by_cases hw : isB fp w = true
  · rw [if_pos hw]
    cases B with
    | none =>
      refine ⟨last, hw, fun j x hj hx hb => ?_, fun j x hx hb => ?_⟩
      · rcases get hx with ⟨z, _⟩ | ⟨z, _⟩
        · rw [h j x z] at hb; cases hb
        · omega
      · rcases get hx with ⟨z, _⟩ | ⟨_, z⟩
        · rw [h j x z] at hb; cases hb
        · rw [z]; exact ⟨fun _ _ => Nat.le_refl _, fun _ => Nat.le_refl _⟩
    | some q =>
      obtain ⟨b, y⟩ := q
      obtain ⟨h1, h2, h3, h4⟩ := h
      have hbl := (List.getElem?_eq_some_iff.mp h1).1
      by_cases hc : fp ≠ 0 ∧ fp % 2 = 0 ∧ w < y ∨ fp % 2 = 1 ∧ y < w
      · show BInv fp (d ++ [w]) (if fp ≠ 0 ∧ fp % 2 = 0 ∧ w < y ∨ fp % 2 = 1 ∧ y < w then some (d.length, w) else some (b, y))
        rw [if_pos hc]
        refine ⟨last, hw, fun j x hj hx hb => ?_, fun j x hx hb => ?_⟩
        · rcases get hx with ⟨z, _⟩ | ⟨z, _⟩
          · have := h4 j x z hb
            rcases hc with ⟨c1, c2, c3⟩ | ⟨c1, c2⟩
            · exact ⟨c1, fun _ => by have := this.1 c1 c2; omega, fun q => by omega⟩
            · exact ⟨by omega, fun q => by omega, fun _ => by have := this.2 c1; omega⟩
          · omega
        · rcases get hx with ⟨z, _⟩ | ⟨_, z⟩
          · have := h4 j x z hb
            rcases hc with ⟨c1, c2, c3⟩ | ⟨c1, c2⟩
            · exact ⟨fun _ _ => by have := this.1 c1 c2; omega, fun q => by omega⟩
            · exact ⟨fun _ q => by omega, fun _ => by have := this.2 c1; omega⟩
          · rw [z]; exact ⟨fun _ _ => Nat.le_refl _, fun _ => Nat.le_refl _⟩
      · show BInv fp (d ++ [w]) (if fp ≠ 0 ∧ fp % 2 = 0 ∧ w < y ∨ fp % 2 = 1 ∧ y < w then some (d.length, w) else some (b, y))
        rw [if_neg hc]
        refine ⟨by rw [List.getElem?_append_left hbl]; exact h1, h2, fun j x hj hx hb => ?_, fun j x hx hb => ?_⟩
        · rcases get hx with ⟨z, _⟩ | ⟨z, _⟩
          · exact h3 j x hj z hb
          · omega
        · rcases get hx with ⟨z, _⟩ | ⟨_, z⟩
          · exact h4 j x z hb
          · rw [z]
            exact ⟨fun q1 q2 => Nat.not_lt.mp (fun q => hc (Or.inl ⟨q1, q2, q⟩)), fun q1 => Nat.not_lt.mp (fun q => hc (Or.inr ⟨q1, q⟩))⟩
  · rw [if_neg hw]
    have hw2 : isB fp w = false := by cases e : isB fp w; rfl; exact absurd e hw
    cases B with
    | none =>
      intro j x hx
      rcases get hx with ⟨z, _⟩ | ⟨_, z⟩
      · exact h j x z
      · rw [z]; exact hw2
    | some q =>
      obtain ⟨b, y⟩ := q
      obtain ⟨h1, h2, h3, h4⟩ := h
      have hbl := (List.getElem?_eq_some_iff.mp h1).1
      refine ⟨by rw [List.getElem?_append_left hbl]; exact h1, h2, fun j x hj hx hb => ?_, fun j x hx hb => ?_⟩
      · rcases get hx with ⟨z, _⟩ | ⟨_, z⟩
        · exact h3 j x hj z hb
        · omega
      · rcases get hx with ⟨z, _⟩ | ⟨_, z⟩
        · exact h4 j x z hb
        · rw [z, hw2] at hb; cases hb
theorem BInv_fold {fp : Nat} : ∀ (t d : List Nat) (B : Option (Nat × Nat)), BInv fp d B → BInv fp (d ++ t) (bfold fp t d.length B)
  | [], d, B, h => by rw [List.append_nil]; exact h
  | w :: t, d, B, h => by
    have := BInv_fold t (d ++ [w]) _ (BInv_step (w := w) h)
    rw [List.length_append, List.length_singleton, List.append_assoc] at this
    exact this
