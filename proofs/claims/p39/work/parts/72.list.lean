/-! listPositions: all positions in their order -/
/-- the numbers of one fox and one first goose, the second from s on -/
def lpS (c : Cfg) (f a : Nat) : Nat → Nat → List Nat
  | 0, _ => []
  | n + 1, s => if fitsB c f a s = true then pnum f a s 0 :: pnum f a s 1 :: lpS c f a n (s + 1) else lpS c f a n (s + 1)
def lpA (c : Cfg) (f : Nat) : Nat → Nat → List Nat
  | 0, _ => []
  | n + 1, a => lpS c f a (c.n + 1) 0 ++ lpA c f n (a + 1)
def lpF (c : Cfg) : Nat → Nat → List Nat
  | 0, _ => []
  | n + 1, f => lpA c f c.n 0 ++ lpF c n (f + 1)
def lp (c : Cfg) : List Nat := lpF c c.n 0
theorem lpS_mem {c : Cfg} {f a q : Nat} : ∀ n s, q ∈ lpS c f a n s ↔ ∃ i t, s ≤ i ∧ i < s + n ∧ t < 2 ∧ fitsB c f a i = true ∧ q = pnum f a i t
  | 0, s => by rw [lpS]; exact ⟨fun h => absurd h List.not_mem_nil, fun ⟨i, t, h1, h2, _⟩ => by omega⟩
  | n + 1, s => by
    rw [lpS]
    by_cases e : fitsB c f a s = true
    · rw [if_pos e, List.mem_cons, List.mem_cons, lpS_mem n (s + 1)]
      constructor
      · rintro (h | h | ⟨i, t, h1, h2, h3⟩)
        · exact ⟨s, 0, Nat.le_refl _, by omega, by decide, e, h⟩
        · exact ⟨s, 1, Nat.le_refl _, by omega, by decide, e, h⟩
        · exact ⟨i, t, by omega, by omega, h3⟩
      · rintro ⟨i, t, h1, h2, h3, h4, h5⟩
        by_cases z : i = s
        · subst z
          rcases (show t = 0 ∨ t = 1 by omega) with z | z
          · subst z; exact Or.inl h5
          · subst z; exact Or.inr (Or.inl h5)
        · exact Or.inr (Or.inr ⟨i, t, by omega, by omega, h3, h4, h5⟩)
    · rw [if_neg e, lpS_mem n (s + 1)]
      constructor
      · rintro ⟨i, t, h1, h2, h3⟩; exact ⟨i, t, by omega, by omega, h3⟩
      · rintro ⟨i, t, h1, h2, h3, h4, h5⟩
        by_cases z : i = s
        · subst z; exact absurd h4 e
        · exact ⟨i, t, by omega, by omega, h3, h4, h5⟩
theorem lpA_mem {c : Cfg} {f q : Nat} : ∀ n a, q ∈ lpA c f n a ↔ ∃ j i t, a ≤ j ∧ j < a + n ∧ i < c.n + 1 ∧ t < 2 ∧ fitsB c f j i = true ∧ q = pnum f j i t
  | 0, a => by rw [lpA]; exact ⟨fun h => absurd h List.not_mem_nil, fun ⟨j, i, t, h1, h2, _⟩ => by omega⟩
  | n + 1, a => by
    rw [lpA, List.mem_append, lpS_mem, lpA_mem n (a + 1)]
    constructor
    · rintro (⟨i, t, _, h2, h3⟩ | ⟨j, i, t, h1, h2, h3⟩)
      · exact ⟨a, i, t, Nat.le_refl _, by omega, by omega, h3⟩
      · exact ⟨j, i, t, by omega, by omega, h3⟩
    · rintro ⟨j, i, t, h1, h2, h3, h4⟩
      by_cases z : j = a
      · subst z; exact Or.inl ⟨i, t, Nat.zero_le _, by omega, h4⟩
      · exact Or.inr ⟨j, i, t, by omega, by omega, h3, h4⟩
theorem lpF_mem {c : Cfg} {q : Nat} : ∀ n f, q ∈ lpF c n f ↔ ∃ g j i t, f ≤ g ∧ g < f + n ∧ j < c.n ∧ i < c.n + 1 ∧ t < 2 ∧ fitsB c g j i = true ∧ q = pnum g j i t
  | 0, f => by rw [lpF]; exact ⟨fun h => absurd h List.not_mem_nil, fun ⟨g, j, i, t, h1, h2, _⟩ => by omega⟩
  | n + 1, f => by
    rw [lpF, List.mem_append, lpA_mem, lpF_mem n (f + 1)]
    constructor
    · rintro (⟨j, i, t, _, h2, h3⟩ | ⟨g, j, i, t, h1, h2, h3⟩)
      · exact ⟨f, j, i, t, Nat.le_refl _, by omega, by omega, h3⟩
      · exact ⟨g, j, i, t, by omega, by omega, h3⟩
    · rintro ⟨g, j, i, t, h1, h2, h3, h4⟩
      by_cases z : g = f
      · subst z; exact Or.inl ⟨j, i, t, Nat.zero_le _, by omega, h4⟩
      · exact Or.inr ⟨g, j, i, t, by omega, by omega, h3, h4⟩
theorem lp_mem {c : Cfg} (hc : CfgOk c) {q : Nat} : q ∈ lp c ↔ posB c q = true := by
  have hn := hc.hn
  unfold lp
  rw [lpF_mem]
  constructor
  · rintro ⟨g, j, i, t, h1, h2, h3, h4, h5, h6, rfl⟩
    unfold posB
    rw [pnum_fx (by omega) (by omega) h5, pnum_fi (by omega) (by omega) h5, pnum_se (by omega) h5, h6, Bool.and_true]
    exact decide_eq_true (by unfold pnum; omega)
  · intro h
    have h' := posB_spec.mp h
    have hs := se_lt q
    have hse : se q ≤ c.n := by
      by_cases hg : c.geese = 1
      · rw [if_pos hg] at h'; omega
      · rw [if_neg hg] at h'; omega
    refine ⟨fx q, fi q, se q, tu q, Nat.zero_le _, by omega, h'.2.2.1, by omega, tu_lt q, ?_, (pnum_eq q).symm⟩
    unfold posB at h
    rw [Bool.and_eq_true] at h
    exact h.2
