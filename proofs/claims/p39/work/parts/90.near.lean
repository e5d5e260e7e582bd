/-! NEIGHBOURS: a path more or less -/
def tglN (nr : Nat → Nat) (a b : Nat) : Nat → Nat := fun x => if x = a then nr a ^^^ 2 ^ b else if x = b then nr b ^^^ 2 ^ a else nr x
theorem s_turnNear {u : MU} {k : Nat} (hk : zkd k = 3) {nr : Nat → Nat} {a b : Nat} (hn : ∀ x, x < 8 → u (k + 3) x = nI (nr x)) (ha : a < 8) (hb : b < 8) (hab : a ≠ b) {Q : MU → Prop} (hq : ∀ u', OnlyR (k + 3) u u' → (∀ x, x < 8 → u' (k + 3) x = nI (tglN nr a b x)) → Q u') : w_X1_turnNear k (nI a) (nI b) u Q := by
  unfold w_X1_turnNear
  refine s_at (zl3_3 hk) ha (by decide) (s_bit (by omega) (s_put (zl3_3 hk) ha (by decide) (s_at (zl3_3 hk) hb (by decide) (s_bit (by omega) (s_put (zl3_3 hk) hb (by decide) ?_)))))
  rw [hn a ha, tp_bit b (by omega), tp_bit a (by omega), fb_xorI]
  rw [u2_o (Or.inr (fun e => hab e.symm)), hn b hb, fb_xorI]
  refine hq _ ((OnlyR.rf _ _).tr (OnlyR_u2.tr OnlyR_u2)) (fun x hx => ?_)
  unfold tglN
  by_cases e1 : x = b
  · rw [e1, u2_at, if_neg (fun e => hab e.symm), if_pos rfl]
  · rw [u2_o (Or.inr e1)]
    by_cases e2 : x = a
    · rw [e2, u2_at, if_pos rfl]
    · rw [u2_o (Or.inr e2), if_neg e2, if_neg e1]; exact hn x hx
theorem adjB_app (ps : List (Nat × Nat)) (q : Nat × Nat) (x y : Nat) : adjB (ps ++ [q]) x y = (adjB ps x y || smP x y q) := by
  unfold adjB
  rw [List.any_append, List.any_cons, List.any_nil, Bool.or_false]
theorem smP_two {x y : Nat} {q z : Nat × Nat} (h1 : smP x y q = true) (h2 : smP x y z = true) : smP q.1 q.2 z = true := by
  rw [smP_spec] at h1 h2 ⊢
  omega
theorem adjB_erase {x y : Nat} : ∀ (ps : List (Nat × Nat)) (i : Nat) (q : Nat × Nat), ps.Pairwise (fun x y => smP x.1 x.2 y = false) → ps[i]? = some q → adjB (ps.eraseIdx i) x y = (adjB ps x y && !smP x y q)
  | [], i, q, _, h => by simp at h
  | r :: t, 0, q, hw, h => by
    rw [List.getElem?_cons_zero] at h
    cases h
    obtain ⟨h1, h2⟩ := List.pairwise_cons.mp hw
    rw [List.eraseIdx_cons_zero]
    show t.any (smP x y) = ((r :: t).any (smP x y) && !smP x y r)
    rw [List.any_cons]
    cases e : smP x y r
    · simp
    · rw [Bool.true_or, Bool.not_true, Bool.and_false, List.any_eq_false]
      intro z hz h3
      have := smP_two e h3
      rw [h1 z hz] at this
      cases this
  | r :: t, i + 1, q, hw, h => by
    rw [List.getElem?_cons_succ] at h
    obtain ⟨h1, h2⟩ := List.pairwise_cons.mp hw
    have ih := adjB_erase (x := x) (y := y) t i q h2 h
    unfold adjB at ih ⊢
    rw [List.eraseIdx_cons_succ, List.any_cons, List.any_cons, ih]
    cases e : smP x y r
    · rw [Bool.false_or, Bool.false_or]
    · rw [Bool.true_or, Bool.true_or, Bool.true_and]
      cases e2 : smP x y q
      · rfl
      · have := smP_two e e2
        rw [h1 q (List.mem_of_getElem? h)] at this
        cases this
/-- the neighbours of a field with one path more, or one less -/
theorem near_add {n : Nat} {ps : List (Nat × Nat)} (h : psOk n ps) {a b x : Nat} (ha : a < 8) (hb : b < 8) (hab : a ≠ b) (h0 : adjB ps a b = false) (hx : x < 8) : nearP (ps ++ [(a, b)]) x = tglN (nearP ps) a b x := by
  have h0' : adjB ps b a = false := by rw [adjB_comm]; exact h0
  refine Nat.eq_of_testBit_eq fun y => ?_
  unfold tglN
  rw [nearP_test, adjB_app]
  by_cases e1 : x = a
  · rw [if_pos e1, fb_bit_flip, nearP_test, e1]
    by_cases hy : y = b
    · rw [hy, h0, decide_eq_true hb, decide_eq_true rfl, show smP a b (a, b) = true from smP_spec.mpr (Or.inl ⟨rfl, rfl⟩)]; rfl
    · have : smP a y (a, b) = false := by
        cases e : smP a y (a, b)
        · rfl
        · rcases smP_spec.mp e with ⟨_, z⟩ | ⟨z1, z2⟩
          · exact absurd z.symm hy
          · exact absurd z2.symm hab
      rw [this, decide_eq_false hy, Bool.or_false, Bool.xor_false]
  · rw [if_neg e1]
    by_cases e2 : x = b
    · rw [if_pos e2, fb_bit_flip, nearP_test, e2]
      by_cases hy : y = a
      · rw [hy, h0', decide_eq_true ha, decide_eq_true rfl, show smP b a (a, b) = true from smP_spec.mpr (Or.inr ⟨rfl, rfl⟩)]; rfl
      · have : smP b y (a, b) = false := by
          cases e : smP b y (a, b)
          · rfl
          · rcases smP_spec.mp e with ⟨z1, _⟩ | ⟨z1, z2⟩
            · exact absurd z1 hab
            · exact absurd z1.symm hy
        rw [this, decide_eq_false hy, Bool.or_false, Bool.xor_false]
    · rw [if_neg e2, nearP_test]
      have : smP x y (a, b) = false := by
        cases e : smP x y (a, b)
        · rfl
        · rcases smP_spec.mp e with ⟨z1, _⟩ | ⟨_, z2⟩
          · exact absurd z1.symm e1
          · exact absurd z2.symm e2
      rw [this, Bool.or_false]
theorem near_erase {n : Nat} {ps : List (Nat × Nat)} (h : psOk n ps) (hn : n ≤ 8) {i x : Nat} {q : Nat × Nat} (hi : ps[i]? = some q) (hx : x < 8) : nearP (ps.eraseIdx i) x = tglN (nearP ps) q.1 q.2 x := by
  have hq := h.2.1 q (List.mem_of_getElem? hi)
  have h1 : adjB ps q.1 q.2 = true := List.any_eq_true.mpr ⟨q, List.mem_of_getElem? hi, smP_spec.mpr (Or.inl ⟨rfl, rfl⟩)⟩
  have h1' : adjB ps q.2 q.1 = true := by rw [adjB_comm]; exact h1
  refine Nat.eq_of_testBit_eq fun y => ?_
  unfold tglN
  rw [nearP_test, adjB_erase ps i q h.2.2 hi]
  by_cases e1 : x = q.1
  · rw [if_pos e1, fb_bit_flip, nearP_test, e1]
    by_cases hy : y = q.2
    · rw [hy, h1, decide_eq_true (show q.2 < 8 by omega), decide_eq_true rfl, smP_spec.mpr (Or.inl ⟨rfl, rfl⟩)]; rfl
    · have : smP q.1 y q = false := by
        cases e : smP q.1 y q
        · rfl
        · rcases smP_spec.mp e with ⟨_, z⟩ | ⟨z1, z2⟩
          · exact absurd z.symm hy
          · exact absurd z2.symm hq.2.2
      rw [this, decide_eq_false hy, Bool.not_false, Bool.and_true, Bool.xor_false]
  · rw [if_neg e1]
    by_cases e2 : x = q.2
    · rw [if_pos e2, fb_bit_flip, nearP_test, e2]
      by_cases hy : y = q.1
      · rw [hy, h1', decide_eq_true (show q.1 < 8 by omega), decide_eq_true rfl, smP_spec.mpr (Or.inr ⟨rfl, rfl⟩)]; rfl
      · have : smP q.2 y q = false := by
          cases e : smP q.2 y q
          · rfl
          · rcases smP_spec.mp e with ⟨z1, _⟩ | ⟨z1, z2⟩
            · exact absurd z1 hq.2.2
            · exact absurd z1.symm hy
        rw [this, decide_eq_false hy, Bool.not_false, Bool.and_true, Bool.xor_false]
    · rw [if_neg e2, nearP_test]
      have : smP x y q = false := by
        cases e : smP x y q
        · rfl
        · rcases smP_spec.mp e with ⟨z1, _⟩ | ⟨_, z2⟩
          · exact absurd z1.symm e1
          · exact absurd z2.symm e2
      rw [this, Bool.not_false, Bool.and_true]
theorem psOk_add {n : Nat} {ps : List (Nat × Nat)} (h : psOk n ps) {a b : Nat} (ha : a < n) (hb : b < n) (hab : a ≠ b) (h0 : adjB ps a b = false) (hl : ps.length < 16) : psOk n (ps ++ [(a, b)]) := by
  refine ⟨by rw [List.length_append, List.length_singleton]; omega, fun q hq => ?_, List.pairwise_append.mpr ⟨h.2.2, List.pairwise_singleton _ _, fun x hx y hy => ?_⟩⟩
  · rcases List.mem_append.mp hq with z | z
    · exact h.2.1 q z
    · rw [List.mem_singleton.mp z]; exact ⟨ha, hb, hab⟩
  · rw [List.mem_singleton.mp hy]
    cases e : smP x.1 x.2 (a, b)
    · rfl
    · have e2 : smP a b x = true := by
        rw [smP_spec] at e ⊢
        rcases e with ⟨z1, z2⟩ | ⟨z1, z2⟩
        · exact Or.inl ⟨z1.symm, z2.symm⟩
        · exact Or.inr ⟨z2.symm, z1.symm⟩
      have : adjB ps a b = true := List.any_eq_true.mpr ⟨x, hx, e2⟩
      rw [h0] at this
      cases this
theorem psOk_erase {n : Nat} {ps : List (Nat × Nat)} (h : psOk n ps) (i : Nat) : psOk n (ps.eraseIdx i) :=
  ⟨Nat.le_trans (List.length_eraseIdx_le ..) h.1, fun q hq => h.2.1 q (List.mem_of_mem_eraseIdx hq), h.2.2.sublist (List.eraseIdx_sublist ..)⟩
theorem psOk_mono {n m : Nat} (hnm : n ≤ m) {ps : List (Nat × Nat)} (h : psOk n ps) : psOk m ps := ⟨h.1, fun q hq => ⟨Nat.lt_of_lt_of_le (h.2.1 q hq).1 hnm, Nat.lt_of_lt_of_le (h.2.1 q hq).2.1 hnm, (h.2.1 q hq).2.2⟩, h.2.2⟩
/-! Integer.bitCount of a row of burrows -/
def pcN (t : Nat) : Nat := ctb t 8
def bc32 (x0 : Int32) : Int32 :=
  let x1 := (x0 - ((x0.toUInt32 >>> ((1 : Int32).toUInt32 &&& Int32.toUInt32 31)).toInt32 &&& (1431655765 : Int32)))
  let x2 := ((x1 &&& (858993459 : Int32)) + ((x1.toUInt32 >>> ((2 : Int32).toUInt32 &&& Int32.toUInt32 31)).toInt32 &&& (858993459 : Int32)))
  let x3 := ((x2 + (x2.toUInt32 >>> ((4 : Int32).toUInt32 &&& Int32.toUInt32 31)).toInt32) &&& (252645135 : Int32))
  let x4 := (x3 + (x3.toUInt32 >>> ((8 : Int32).toUInt32 &&& Int32.toUInt32 31)).toInt32)
  let x5 := (x4 + (x4.toUInt32 >>> ((16 : Int32).toUInt32 &&& Int32.toUInt32 31)).toInt32)
  x5 &&& (63 : Int32)
theorem bc32_small : ∀ t, t < 256 → bc32 (nI t) = nI (pcN t) := by decide +kernel
theorem s_bitCountI {t : Nat} (ht : t < 256) {Q : Int32 → Prop} (h : Q (nI (pcN t))) : w_J6_bitCount_0f7a4 (nI t) Q := by
  unfold w_J6_bitCount_0f7a4
  intro a1 e1 a2 e2 a3 e3 a4 e4 a5 e5
  rw [← bc32_small t ht] at h
  rw [e5, e4, e3, e2, e1]
  exact h
