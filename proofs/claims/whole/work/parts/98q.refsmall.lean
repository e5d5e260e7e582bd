/-! the reference: undo, save, restore, texts, reason, line, small queries -/
theorem RMem_hist {v v' : MU} {A : Ab} {h : List St} (hM : RMem v A) (h1 : ∀ j, j ≠ 3 → j ≠ 17 → j ≠ 22 → v' 117 j = v 117 j) (h2 : ∀ a, 120 ≤ a → a ≤ 123 → v' a = v a) (h3 : v' 117 3 = nI h.length) (h4 : ∀ (j : Nat) S, h[j]? = some S → RwIs (fun i => v 120 (119 * j + i)) S) : RMem v' (A.setH h) := by
  obtain ⟨m1, m2, m3, m4, m5, m6, m7, m8, m9⟩ := hM
  refine ⟨by rw [h1 13 (by decide) (by decide) (by decide)]; exact m1, ?_, h3, fun j S hj => by rw [h2 120 (by decide) (by decide)]; exact h4 j S hj, by rw [h1 9 (by decide) (by decide) (by decide)]; exact m5, by rw [h2 123 (by decide) (by decide)]; exact m6, by rw [h1 7 (by decide) (by decide) (by decide)]; exact m7, by rw [h2 122 (by decide) (by decide)]; exact m8, ?_⟩
  · show RSv v' A.sv
    unfold RSv at m2 ⊢
    rw [h1 5 (by decide) (by decide) (by decide), h2 121 (by decide) (by decide)]
    exact m2
  · show RWy v' A.why
    unfold RWy at m9 ⊢
    rw [h1 14 (by decide) (by decide) (by decide), h1 15 (by decide) (by decide) (by decide), h1 16 (by decide) (by decide) (by decide)]
    exact m9
theorem M_undo {v : MU} {A : Ab} {Q : Int32 → MU → Prop} (hI : RI v A) (hq : MPost (a_undo A) Q) : w_X10_undo v Q := by
  obtain ⟨o1, o2, o3, o4⟩ := hI
  have o3' := o3
  obtain ⟨m1, m2, m3, m4, m5, m6, m7, m8, m9⟩ := o3
  have hl8 := o1.2.2.1
  unfold w_X10_undo
  intro a1 e1
  have s1 : ∀ j, j ≠ 17 → a1 117 j = v 117 j := fun j hj => by rw [e1]; exact u2_o (Or.inr hj)
  have f1 : ∀ a, a ≠ 117 → a1 a = v a := fun a ha => by rw [e1]; exact u2_ne ha
  rw [s1 3 (by decide), m3]
  by_cases e : A.hist.length = 0
  · have he : A.hist = [] := List.length_eq_zero_iff.mp e
    have ha : a_undo A = (1, (0, A)) := by unfold a_undo; rw [he]; rfl
    rw [e]
    refine ⟨fun z => absurd rfl z, fun _ => r_raises (j := 0) hq ha (fun v' h1 h2 => ?_)⟩
    exact RI_17 ⟨o1, o2, o3', o4⟩ (fun i hi => by rw [h1 i hi]; exact s1 i hi) (fun a ha => by rw [h2 a ha]; exact f1 a ha)
  · refine ⟨fun _ a3 e3 a4 e4 => ⟨120, ?_⟩, fun z => absurd z (nI_ne0 (by omega) (by omega))⟩
    have hget : A.hist[A.hist.length - 1]? = some A.hist[A.hist.length - 1] := List.getElem?_eq_getElem (by omega)
    have ha : a_undo A = (0, (nI (A.hist.length - 1), (A.setS A.hist[A.hist.length - 1]).setH A.hist.dropLast)) := by
      unfold a_undo
      rw [List.getLast?_eq_getElem?, hget]
    generalize A.hist[A.hist.length - 1] = S at hget ha
    have hSok := o1.2.2.2.1 S (List.mem_of_getElem? hget)
    have x3 : a3 117 3 = nI A.hist.length := by rw [e3, u2_o (Or.inr (by decide)), s1 3 (by decide)]; exact m3
    rw [x3, nI_pr (by omega)] at e4
    have s4 : ∀ j, j ≠ 3 → j ≠ 17 → j ≠ 22 → a4 117 j = v 117 j := fun j h3 h17 h22 => by rw [e4, u2_o (Or.inr h3), e3, u2_o (Or.inr h22)]; exact s1 j h17
    have f4 : ∀ a, a ≠ 117 → a4 a = v a := fun a ha => by rw [e4, u2_ne ha, e3, u2_ne ha]; exact f1 a ha
    have c4' : a4 117 3 = nI (A.hist.length - 1) := by rw [e4, u2_at]
    have c22 : a4 117 22 = 0 := by rw [e4, u2_o (Or.inr (by decide)), e3, u2_at]
    have c17 : a4 117 17 = 0 := by rw [e4, u2_o (Or.inr (by decide)), e3, u2_o (Or.inr (by decide)), e1, u2_at]
    have loop : ∀ (n i : Nat) (v' : MU), i + n = 119 → (∀ a, a ≠ 118 → v' a = a4 a) → (∀ m, m < i → v' 118 m = v 120 (119 * (A.hist.length - 1) + m)) → wl_X10_undo_35 Q (n + 1) (nI i) v' := by
      intro n
      induction n with
      | zero =>
        intro i v' hi f' s'
        rw [wl_X10_undo_35, f' 117 (by decide), c4']
        refine ⟨fun _ => ?_, fun z => absurd (nI_le (a := 119) (by omega) (by omega)) z⟩
        refine MPost.ret hq ha ⟨⟨hSok, o1.2.1, by show A.hist.dropLast.length ≤ 8; rw [List.length_dropLast]; omega, fun T hT => o1.2.2.2.1 T ((List.dropLast_sublist _).mem hT), o1.2.2.2.2⟩, RwIs_of hSok (fun m hm => s' m (by omega)) (m4 _ S hget), ?_, Or.inl (by rw [f' 117 (by decide)]; exact c22)⟩ (by rw [f' 117 (by decide)]; exact c17)
        refine RMem_hist (A := A.setS S) (v := v) o3' (fun j h3 h17 h22 => by rw [f' 117 (by decide)]; exact s4 j h3 h17 h22) (fun a ha hb => by rw [f' a (by omega), f4 a (by omega)]) ?_ (fun j T hj => ?_)
        · rw [f' 117 (by decide), c4', List.length_dropLast]
        · have hjl := (List.getElem?_eq_some_iff.mp hj).1
          rw [List.length_dropLast] at hjl
          rw [List.getElem?_dropLast, if_pos hjl] at hj
          exact m4 j T hj
      | succ n ih =>
        intro i v' hi f' s'
        rw [wl_X10_undo_35, f' 117 (by decide), c4', i119m]
        refine ⟨fun z => absurd z (nI_ge (b := 119) (by omega) (by decide)), fun _ => ⟨vp_in_nI (by omega) (by decide), i119 (by omega), fun a4' e4' x1 hx1 => ?_⟩⟩
        rw [show (nI i).toNatClampNeg = i from nI_clamp (by omega), show (nI (119 * (A.hist.length - 1) + i)).toNatClampNeg = 119 * (A.hist.length - 1) + i from nI_clamp (by omega)] at e4'
        rw [hx1, nI_1]
        refine ih (i + 1) a4' (by omega) (fun a ha => by rw [e4', u2_ne ha]; exact f' a ha) (fun m hm => ?_)
        by_cases e : m = i
        · rw [e4', e, u2_at, f' 120 (by decide), f4 120 (by decide)]
        · rw [e4', u2_o (Or.inr e)]; exact s' m (by omega)
    exact loop 119 0 a4 rfl (fun _ _ => rfl) (fun m hm => by omega)
theorem M_save {v : MU} {A : Ab} {Q : Int32 → MU → Prop} (hI : RI v A) (hq : ∀ v', RI v' (A.setV (some A.S)) → Q (nI A.S.n) v') : w_X10_save v Q := by
  obtain ⟨o1, o2, o3, o4⟩ := hI
  obtain ⟨m1, m2, m3, m4, m5, m6, m7, m8, m9⟩ := o3
  unfold w_X10_save
  intro a1 e1 a2 e2
  have s2 : ∀ j, j ≠ 5 → j ≠ 17 → a2 117 j = v 117 j := fun j h5 h17 => by rw [e2, u2_o (Or.inr h5), e1, u2_o (Or.inr h17)]
  have f2 : ∀ a, a ≠ 117 → a2 a = v a := fun a ha => by rw [e2, u2_ne ha, e1, u2_ne ha]
  have c5' : a2 117 5 = 1 := by rw [e2, u2_at]
  have loop : ∀ (n i : Nat) (v' : MU), i + n = 119 → (∀ a, a ≠ 121 → v' a = a2 a) → (∀ m, m < i → v' 121 m = v 118 m) → wl_X10_save_12 Q (n + 1) (nI i) v' := by
    intro n
    induction n with
    | zero =>
      intro i v' hi f' s'
      rw [wl_X10_save_12]
      refine ⟨fun _ => ⟨i119 (n := 0) (by decide), ?_⟩, fun z => absurd (nI_le (a := 119) (by omega) (by omega)) z⟩
      have r118 : v' 118 = v 118 := by rw [f' 118 (by decide), f2 118 (by decide)]
      rw [c0, r118, o2.1]
      have sl : ∀ j, j ≠ 5 → j ≠ 17 → v' 117 j = v 117 j := fun j h5 h17 => by rw [f' 117 (by decide)]; exact s2 j h5 h17
      refine hq v' ⟨⟨o1.1, fun S e => by cases e; exact o1.1, o1.2.2⟩, by rw [r118]; exact o2, ⟨by rw [sl 13 (by decide) (by decide)]; exact m1, ⟨by rw [f' 117 (by decide)]; exact c5', RwIs_of o1.1 (fun m hm => s' m (by omega)) o2⟩, by rw [sl 3 (by decide) (by decide)]; exact m3, by rw [f' 120 (by decide), f2 120 (by decide)]; exact m4, by rw [sl 9 (by decide) (by decide)]; exact m5, by rw [f' 123 (by decide), f2 123 (by decide)]; exact m6, by rw [sl 7 (by decide) (by decide)]; exact m7, by rw [f' 122 (by decide), f2 122 (by decide)]; exact m8, ?_⟩, ?_⟩
      · show RWy v' A.why
        unfold RWy at m9 ⊢
        rw [sl 14 (by decide) (by decide), sl 15 (by decide) (by decide), sl 16 (by decide) (by decide)]
        exact m9
      · rw [sl 22 (by decide) (by decide)]
        rcases o4 with z | ⟨z, z2⟩
        · exact Or.inl z
        · exact Or.inr ⟨z, fun q hq => by rw [f' 126 (by decide), f' 127 (by decide), f2 126 (by decide), f2 127 (by decide)]; exact z2 q hq⟩
    | succ n ih =>
      intro i v' hi f' s'
      rw [wl_X10_save_12]
      refine ⟨fun z => absurd z (nI_ge (b := 119) (by omega) (by decide)), fun _ => ⟨i119 (by omega), i119 (by omega), fun a5 e5 x1 hx1 => ?_⟩⟩
      rw [nI_clamp (by omega)] at e5
      rw [hx1, nI_1]
      refine ih (i + 1) a5 (by omega) (fun a ha => by rw [e5, u2_ne ha]; exact f' a ha) (fun m hm => ?_)
      by_cases e : m = i
      · rw [e5, e, u2_at, f' 118 (by decide), f2 118 (by decide)]
      · rw [e5, u2_o (Or.inr e)]; exact s' m (by omega)
  exact ⟨120, loop 119 0 a2 rfl (fun _ _ => rfl) (fun m hm => by omega)⟩
theorem M_restore {v : MU} {A : Ab} {Q : Int32 → MU → Prop} (hI : RI v A) (hq : MPost (a_restore A) Q) : w_X10_restore v Q := by
  obtain ⟨o1, o2, o3, o4⟩ := hI
  have o3' := o3
  obtain ⟨m1, m2, m3, m4, m5, m6, m7, m8, m9⟩ := o3
  unfold a_restore at hq
  unfold w_X10_restore
  intro a1 e1
  have s1 : ∀ j, j ≠ 17 → a1 117 j = v 117 j := fun j hj => by rw [e1]; exact u2_o (Or.inr hj)
  have f1 : ∀ a, a ≠ 117 → a1 a = v a := fun a ha => by rw [e1]; exact u2_ne ha
  rw [s1 5 (by decide)]
  unfold RSv at m2
  cases hs : A.sv with
  | none =>
    rw [hs] at m2 hq
    refine ⟨fun z => absurd m2 z, fun _ => r_raises (j := 0) hq rfl (fun v' h1 h2 => ?_)⟩
    exact RI_17 ⟨o1, o2, o3', o4⟩ (fun i hi => by rw [h1 i hi]; exact s1 i hi) (fun a ha => by rw [h2 a ha]; exact f1 a ha)
  | some S =>
    rw [hs] at m2 hq
    obtain ⟨p1, p2⟩ := m2
    have hSok := o1.2.1 S hs
    refine ⟨fun _ a3 e3 => ⟨120, ?_⟩, fun z => absurd (p1.symm.trans z) (by decide)⟩
    have s3 : ∀ j, j ≠ 17 → j ≠ 22 → a3 117 j = v 117 j := fun j h17 h22 => by rw [e3, u2_o (Or.inr h22)]; exact s1 j h17
    have f3 : ∀ a, a ≠ 117 → a3 a = v a := fun a ha => by rw [e3, u2_ne ha]; exact f1 a ha
    have c22 : a3 117 22 = 0 := by rw [e3, u2_at]
    have c17 : a3 117 17 = 0 := by rw [e3, u2_o (Or.inr (by decide)), e1, u2_at]
    have loop : ∀ (n i : Nat) (v' : MU), i + n = 119 → (∀ a, a ≠ 118 → v' a = a3 a) → (∀ m, m < i → v' 118 m = v 121 m) → wl_X10_restore_25 Q (n + 1) (nI i) v' := by
      intro n
      induction n with
      | zero =>
        intro i v' hi f' s'
        rw [wl_X10_restore_25]
        refine ⟨fun _ a2 e2 => ⟨i119 (n := 0) (by decide), ?_⟩, fun z => absurd (nI_le (a := 119) (by omega) (by omega)) z⟩
        have hR := RwIs_of hSok (r' := v' 118) (fun m hm => s' m (by omega)) p2
        have r118 : a2 118 = v' 118 := by rw [e2]; exact u2_ne (by decide)
        rw [c0, r118, hR.1]
        refine MPost.ret hq rfl ⟨⟨hSok, o1.2.1, Nat.zero_le _, fun T hT => absurd hT List.not_mem_nil, o1.2.2.2.2⟩, by rw [r118]; exact hR, ?_, Or.inl (by rw [e2, u2_o (Or.inr (by decide)), f' 117 (by decide)]; exact c22)⟩ (by rw [e2, u2_o (Or.inr (by decide)), f' 117 (by decide)]; exact c17)
        refine RMem_hist (A := A.setS S) (v := v) o3' (fun j h3 h17 h22 => by rw [e2, u2_o (Or.inr h3), f' 117 (by decide)]; exact s3 j h17 h22) (fun a ha hb => by rw [e2, u2_ne (by omega), f' a (by omega), f3 a (by omega)]) (by rw [e2, u2_at]; rfl) (fun j T hj => by simp at hj)
      | succ n ih =>
        intro i v' hi f' s'
        rw [wl_X10_restore_25]
        refine ⟨fun z => absurd z (nI_ge (b := 119) (by omega) (by decide)), fun _ => ⟨i119 (by omega), i119 (by omega), fun a5 e5 x1 hx1 => ?_⟩⟩
        rw [nI_clamp (by omega)] at e5
        rw [hx1, nI_1]
        refine ih (i + 1) a5 (by omega) (fun a ha => by rw [e5, u2_ne ha]; exact f' a ha) (fun m hm => ?_)
        by_cases e : m = i
        · rw [e5, e, u2_at, f' 121 (by decide), f3 121 (by decide)]
        · rw [e5, u2_o (Or.inr e)]; exact s' m (by omega)
    exact loop 119 0 a3 rfl (fun _ _ => rfl) (fun m hm => by omega)
theorem M_append {v : MU} {A : Ab} {x : Int32} (hx : chI x) {Q : Int32 → MU → Prop} (hI : RI v A) (hq : MPost (a_append A x) Q) : w_X10_append x v Q := by
  obtain ⟨o1, o2, o3, o4⟩ := hI
  have o3' := o3
  obtain ⟨m1, m2, m3, m4, m5, m6, m7, m8, m9⟩ := o3
  have hl := o1.2.2.2.2.1
  unfold a_append at hq
  unfold w_X10_append
  intro a1 e1
  have s1 : ∀ j, j ≠ 17 → a1 117 j = v 117 j := fun j hj => by rw [e1]; exact u2_o (Or.inr hj)
  have f1 : ∀ a, a ≠ 117 → a1 a = v a := fun a ha => by rw [e1]; exact u2_ne ha
  rw [s1 9 (by decide), m5]
  refine ⟨fun z a3 e3 => ?_, fun z => ?_⟩
  · have h : A.text.length < 60 := by
      rcases Nat.lt_or_ge A.text.length 60 with e | e
      · exact e
      · exact absurd (by rw [show A.text.length = 60 by omega]; rfl) z
    rw [if_pos h] at hq
    rw [nI_1] at e3
    refine ⟨vp_in_nI h (by decide), fun a5 e5 => ?_⟩
    rw [nI_clamp (by omega), chI_nar hx] at e5
    have s5 : ∀ j, j ≠ 9 → j ≠ 17 → a5 117 j = v 117 j := fun j h9 h17 => by rw [e5, u2_ne (by decide), e3, u2_o (Or.inr h9)]; exact s1 j h17
    have f5 : ∀ a, a ≠ 117 → a ≠ 123 → a5 a = v a := fun a h1 h2 => by rw [e5, u2_ne h2, e3, u2_ne h1]; exact f1 a h1
    have c9 : a5 117 9 = nI (A.text.length + 1) := by rw [e5, u2_ne (by decide), e3, u2_at]
    rw [c9]
    refine MPost.ret hq rfl ⟨⟨o1.1, o1.2.1, o1.2.2.1, o1.2.2.2.1, by show (A.text ++ [x]).length ≤ 60; rw [List.length_append, List.length_singleton]; omega, fun y hy => ?_, o1.2.2.2.2.2.2⟩, by rw [f5 118 (by decide) (by decide)]; exact o2, ⟨by rw [s5 13 (by decide) (by decide)]; exact m1, ?_, by rw [s5 3 (by decide) (by decide)]; exact m3, by rw [f5 120 (by decide) (by decide)]; exact m4, ?_, fun i y hi => ?_, by rw [s5 7 (by decide) (by decide)]; exact m7, by rw [f5 122 (by decide) (by decide)]; exact m8, ?_⟩, ?_⟩ (by rw [e5, u2_ne (by decide), e3, u2_o (Or.inr (by decide)), e1, u2_at])
    · rcases List.mem_append.mp hy with z2 | z2
      · exact o1.2.2.2.2.2.1 y z2
      · rw [List.mem_singleton.mp z2]; exact hx
    · show RSv a5 A.sv
      unfold RSv at m2 ⊢
      rw [s5 5 (by decide) (by decide), f5 121 (by decide) (by decide)]
      exact m2
    · show a5 117 9 = nI (A.text ++ [x]).length
      rw [c9, List.length_append]; rfl
    · have hi' : (A.text ++ [x])[i]? = some y := hi
      rcases Nat.lt_or_ge i A.text.length with z2 | z2
      · rw [List.getElem?_append_left z2] at hi'
        rw [e5, u2_o (Or.inr (by omega)), e3, u2_ne (by decide), f1 123 (by decide)]
        exact m6 i y hi'
      · have hil := (List.getElem?_eq_some_iff.mp hi').1
        rw [List.length_append, List.length_singleton] at hil
        have hi2 : i = A.text.length := by omega
        subst hi2
        rw [List.getElem?_append_right (Nat.le_refl _), Nat.sub_self, List.getElem?_cons_zero] at hi'
        cases hi'
        rw [e5, u2_at]
    · show RWy a5 A.why
      unfold RWy at m9 ⊢
      rw [s5 14 (by decide) (by decide), s5 15 (by decide) (by decide), s5 16 (by decide) (by decide)]
      exact m9
    · rw [s5 22 (by decide) (by decide)]
      rcases o4 with z2 | ⟨z2, z3⟩
      · exact Or.inl z2
      · exact Or.inr ⟨z2, fun q hq => by rw [f5 126 (by decide) (by decide), f5 127 (by decide) (by decide)]; exact z3 q hq⟩
  · have h : ¬ A.text.length < 60 := fun e => by
      have := (nI_eq (b := 60) (by omega) (by decide)).mp z
      omega
    rw [if_neg h] at hq
    exact r_raises (j := 0) hq rfl (fun v' h1 h2 => RI_17 ⟨o1, o2, o3', o4⟩ (fun i hi => by rw [h1 i hi]; exact s1 i hi) (fun a ha => by rw [h2 a ha]; exact f1 a ha))
/-- the call's start: nothing is thrown -/
theorem RI_0 {v a1 : MU} {A : Ab} {x : Int32} (hI : RI v A) (e1 : a1 = u2 v 117 17 x) : RI a1 A ∧ a1 117 17 = x := ⟨RI_17 hI (fun i hi => by rw [e1]; exact u2_o (Or.inr hi)) (fun a ha => by rw [e1]; exact u2_ne ha), by rw [e1, u2_at]⟩
theorem r_raise {v : MU} {y : Int32} {A : Ab} {k : Ans} {j : Nat} {Q : Int32 → MU → Prop} (hI : RI v A) (hq : MPost k Q) (hk : k = (j + 1, (y, A))) : w_X10_raises (nI (j + 1)) v (fun r u => Q r u) := r_raises hq hk (fun v' h1 h2 => RI_17 hI h1 h2)
theorem M_reason {v : MU} {A : Ab} {x : Int32} {Q : Int32 → MU → Prop} (hI : RI v A) (hq : MPost (a_reason A x) Q) : w_X10_reason x v Q := by
  unfold a_reason at hq
  unfold w_X10_reason w_X10_in
  intro a1 e1
  obtain ⟨i1, h17⟩ := RI_0 hI e1
  have m9 := i1.2.2.1.2.2.2.2.2.2.2.2
  refine ⟨fun z => ⟨fun z2 => absurd rfl z2, fun _ => ?_⟩, fun z => ⟨fun z2 => ⟨fun z3 => absurd rfl z3, fun _ => ?_⟩, fun z2 => ⟨fun _ => ?_, fun z3 => absurd z3 (by decide)⟩⟩⟩
  · rw [if_pos z] at hq
    exact r_raise (j := 0) i1 hq rfl
  · rw [if_neg z, if_pos z2] at hq
    exact r_raise (j := 0) i1 hq rfl
  · rw [if_neg z, if_neg z2] at hq
    unfold RWy at m9
    cases hw : A.why with
    | none =>
      rw [hw] at m9 hq
      exact ⟨fun z3 => absurd m9 z3, fun _ => r_raise (j := 1) i1 hq rfl⟩
    | some y =>
      obtain ⟨w, d, i⟩ := y
      rw [hw] at m9 hq
      have hq : MPost (0, ((if x = 0 then w else if x = 1 then d else i), A)) Q := hq
      obtain ⟨p2, p3, p4⟩ := m9
      have hw0 := hI.1.2.2.2.2.2.2.2.2 w d i hw
      refine ⟨fun _ => ⟨fun e0 => ⟨fun e2 => ?_, fun e2 => ?_⟩, fun e0 => ?_⟩, fun z3 => absurd (p2.symm.trans z3) hw0⟩
      · rw [p4]; exact MPost.ret hq (by rw [if_neg e0, if_neg e2]) i1 h17
      · rw [p3]; exact MPost.ret hq (by rw [if_neg e0, if_pos e2]) i1 h17
      · rw [p2]; exact MPost.ret hq (by rw [if_pos e0]) i1 h17
theorem M_character {v : MU} {A : Ab} {x : Int32} {Q : Int32 → MU → Prop} (hI : RI v A) (hq : MPost (a_character A x) Q) : w_X10_character x v Q := by
  obtain ⟨m1, m2, m3, m4, m5, m6, m7, m8, m9⟩ := hI.2.2.1
  have hl := hI.1.2.2.2.2.2.2.1
  unfold a_character at hq
  unfold w_X10_character w_X10_in wb_X10_character_20
  rw [m7]
  have no : (a_character A x = (1, (0, A))) → ∀ u_1, u_1 = u2 v 117 17 1 → ((¬ (u_1 117 17) = 0) → Q (97 : Int32) u_1) ∧ (((u_1 117 17) = 0) → vp_in x 200 ∧ (narrow .char (.int (u_1 122 (x).toNatClampNeg)) = .int (u_1 122 (x).toNatClampNeg) ∧ Q (u_1 122 (x).toNatClampNeg) u_1)) := fun e a1 e1 => by
    obtain ⟨i1, h17⟩ := RI_0 hI e1
    rw [h17]
    unfold a_character at e
    exact ⟨fun _ => MPost.exc (j := 0) hq e i1 (by rw [h17]; rfl), fun z => absurd z (by decide)⟩
  refine ⟨fun z => ⟨fun _ => no (by unfold a_character; rw [if_pos z]), fun z2 => absurd rfl z2⟩, fun z => ?_⟩
  obtain ⟨m, hm31, rfl⟩ := nI_of z
  rw [if_neg z, show cl (nI m) = m from nI_clamp hm31] at hq
  have out : A.line.length ≤ m → a_character A (nI m) = (1, (0, A)) := fun h => by unfold a_character; rw [if_neg z, show cl (nI m) = m from nI_clamp hm31, List.getElem?_eq_none h]
  refine ⟨fun z2 => ⟨fun _ => no (out ?_), fun z3 => absurd rfl z3⟩, fun z2 => ⟨fun z3 => absurd z3 (by decide), fun _ a1 e1 => ?_⟩⟩
  · rcases Nat.eq_zero_or_pos A.line.length with e | e
    · omega
    · rw [nI_pr e] at z2
      have := (nI_ltI (by omega) hm31).mp z2
      omega
  · have hml : m < A.line.length := by
      rcases Nat.lt_or_ge m A.line.length with e | e
      · exact e
      · exfalso
        refine z2 ?_
        rcases Nat.eq_zero_or_pos A.line.length with e3 | e3
        · rw [e3, show nI 0 - 1 = (-1 : Int32) by decide +kernel]; exact fa_trans m1_lt (nI_pos' hm31)
        · rw [nI_pr e3]; exact nI_lt (by omega) hm31
    obtain ⟨i1, h17⟩ := RI_0 hI e1
    have hch := hI.1.2.2.2.2.2.2.2.1 _ (List.getElem_mem hml)
    rw [List.getElem?_eq_getElem hml] at hq
    have hv : a1 122 m = A.line[m] := by rw [e1, u2_ne (by decide)]; exact m8 m _ (List.getElem?_eq_getElem hml)
    rw [h17, show (nI m).toNatClampNeg = m from nI_clamp hm31, hv]
    exact ⟨fun z3 => absurd rfl z3, fun _ => ⟨vp_in_nI (by omega) (by decide), chI_nc hch, MPost.ret hq rfl i1 h17⟩⟩
theorem M_now {v : MU} {A : Ab} {Q : Int32 → MU → Prop} (hI : RI v A) (hq : MPost (a_now A) Q) : w_X10_now v Q := by
  have hG := hI.2.1.2.2.2.2.2.2
  unfold a_now at hq
  unfold w_X10_now wb_X10_now_15
  rw [c4]
  cases hg : A.S.game with
  | none =>
    rw [hg] at hq hG
    refine ⟨i119 (n := 4) (by decide), fun z => absurd hG.1 z, fun _ a1 e1 => ?_⟩
    obtain ⟨i1, h17⟩ := RI_0 hI e1
    rw [h17]
    exact ⟨fun _ => MPost.exc (j := 0) hq rfl i1 h17, fun z => absurd z (by decide)⟩
  | some y =>
    obtain ⟨h, p⟩ := y
    rw [hg] at hq hG
    obtain ⟨k1, k2, k3⟩ := hI.1.1.2.2.2.2 h p hg
    have hp2 := (posB_spec.mp k2).1
    refine ⟨i119 (n := 4) (by decide), fun _ a1 e1 => ?_, fun z => absurd (hG.1.symm.trans z) (nI_ne0 (by omega) (by omega))⟩
    obtain ⟨i1, h17⟩ := RI_0 hI e1
    rw [h17]
    refine ⟨fun z => absurd rfl z, fun _ => ⟨i119 (n := 4) (by decide), ?_⟩⟩
    rw [e1, u2_ne (by decide), hG.1, nI_pred, ← e1]
    exact MPost.ret hq rfl i1 h17
theorem M_pathOf {v : MU} {A : Ab} {x : Int32} {b : Bool} {Q : Int32 → MU → Prop} (hI : RI v A) (hq : MPost (a_pathOf A x b) Q) : w_X10_pathOf x (bI b) v Q := by
  obtain ⟨h0, h1, h2, h3, h4, h5, h6⟩ := hI.2.1
  have hl := hI.1.1.2.2.2.1.1
  unfold w_X10_pathOf w_X10_in wb_X10_pathOf_22 wb_X10_pathOf_51
  rw [c3, h3]
  have no : (a_pathOf A x b = (1, (0, A))) → ∀ u_1, u_1 = u2 v 117 17 1 → ((¬ (u_1 117 17) = 0) → Q (0 : Int32) u_1) ∧ (((u_1 117 17) = 0) → ((bI b = 0) → vp_in (((7 : Int32) + ((2 : Int32) * x)) + 0) 119 ∧ (Q (u_1 118 ((((7 : Int32) + ((2 : Int32) * x)) + 0)).toNatClampNeg) u_1)) ∧ ((¬ bI b = 0) → vp_in (((7 : Int32) + ((2 : Int32) * x)) + 1) 119 ∧ (Q (u_1 118 ((((7 : Int32) + ((2 : Int32) * x)) + 1)).toNatClampNeg) u_1))) := fun e a1 e1 => by
    obtain ⟨i1, h17⟩ := RI_0 hI e1
    rw [h17]
    exact ⟨fun _ => MPost.exc (j := 0) hq e i1 h17, fun z => absurd z (by decide)⟩
  refine ⟨i119 (n := 3) (by decide), fun z => ⟨fun _ => no (by unfold a_pathOf; rw [if_pos z]), fun z2 => absurd rfl z2⟩, fun z => ?_⟩
  obtain ⟨m, hm31, rfl⟩ := nI_of z
  have out : A.S.ps.length ≤ m → a_pathOf A (nI m) b = (1, (0, A)) := fun h => by unfold a_pathOf; rw [if_neg z, show cl (nI m) = m from nI_clamp hm31, List.getElem?_eq_none h]
  refine ⟨fun z2 => ⟨fun _ => no (out ?_), fun z3 => absurd rfl z3⟩, fun z2 => ⟨fun z3 => absurd z3 (by decide), fun _ a1 e1 => ?_⟩⟩
  · rcases Nat.eq_zero_or_pos A.S.ps.length with e | e
    · omega
    · rw [nI_pr e] at z2
      have := (nI_ltI (by omega) hm31).mp z2
      omega
  · have hml : m < A.S.ps.length := by
      rcases Nat.lt_or_ge m A.S.ps.length with e | e
      · exact e
      · exfalso
        refine z2 ?_
        rcases Nat.eq_zero_or_pos A.S.ps.length with e3 | e3
        · rw [e3, show nI 0 - 1 = (-1 : Int32) by decide +kernel]; exact fa_trans m1_lt (nI_pos' hm31)
        · rw [nI_pr e3]; exact nI_lt (by omega) hm31
    obtain ⟨i1, h17⟩ := RI_0 hI e1
    unfold a_pathOf at hq
    rw [if_neg z, show cl (nI m) = m from nI_clamp hm31, List.getElem?_eq_getElem hml] at hq
    obtain ⟨r1, r2⟩ := h4 m _ (List.getElem?_eq_getElem hml)
    rw [h17, i7, show nI (7 + 2 * m) + (0 : Int32) = nI (7 + 2 * m) from Int32.add_zero _, nI_1, show (nI (7 + 2 * m)).toNatClampNeg = 7 + 2 * m from nI_clamp (by omega), show (nI (7 + 2 * m + 1)).toNatClampNeg = 7 + 2 * m + 1 from nI_clamp (by omega)]
    have x1 : a1 118 (7 + 2 * m) = nI (A.S.ps[m]).1 := by rw [e1, u2_ne (by decide)]; exact r1
    have x2 : a1 118 (7 + 2 * m + 1) = nI (A.S.ps[m]).2 := by rw [e1, u2_ne (by decide)]; exact r2
    rw [x1, x2]
    refine ⟨fun z3 => absurd rfl z3, fun _ => bI_br (fun e => ⟨i119 (by omega), ?_⟩) (fun e => ⟨i119 (by omega), ?_⟩)⟩
    · rw [e] at hq; exact MPost.ret hq rfl i1 h17
    · rw [e] at hq; exact MPost.ret hq rfl i1 h17
theorem M_position {v : MU} {A : Ab} {x y z : Int32} {b : Bool} {Q : Int32 → MU → Prop} (hI : RI v A) (hq : MPost (a_position A x y z b) Q) : w_X10_position x y z (bI b) v Q := by
  unfold a_position at hq
  unfold w_X10_position wb_X10_position_16 w_X10_numberOf wb_X10_numberOf_25
  refine r_is hI.c hI.R (bI_br (fun e a1 e1 => ?_) (fun e a1 e1 => ?_))
  · rw [if_neg (by rw [e]; decide)] at hq
    obtain ⟨i1, h17⟩ := RI_0 hI e1
    rw [h17]
    exact ⟨fun _ => MPost.exc (j := 0) hq rfl i1 h17, fun z => absurd z (by decide)⟩
  · rw [if_pos e] at hq
    obtain ⟨i1, h17⟩ := RI_0 hI e1
    rw [h17]
    refine ⟨fun z => absurd rfl z, fun _ => bI_br (fun e2 => ?_) (fun e2 => ?_)⟩
    · rw [e2] at hq; exact MPost.ret hq rfl i1 h17
    · rw [e2] at hq; exact MPost.ret hq rfl i1 h17
