/-! THE REFERENCE shows the abstract machine -/
def RG (r : Nat → Int32) (g : Option Gm) : Prop := match g with
  | none => r 4 = 0 ∧ r 5 = 0
  | some (h, p) => r 4 = nI (p + 1) ∧ r 5 = nI h.length ∧ ∀ (i : Nat) q, h[i]? = some q → r (39 + i) = nI q.1 ∧ r (79 + i) = nI q.2
/-- a row of 119 ints shows a state -/
def RwIs (r : Nat → Int32) (S : St) : Prop := r 0 = nI S.n ∧ r 1 = nI S.traps ∧ r 2 = nI S.geese ∧ r 3 = nI S.ps.length ∧ (∀ (i : Nat) q, S.ps[i]? = some q → r (7 + 2 * i) = nI q.1 ∧ r (7 + 2 * i + 1) = nI q.2) ∧ r 6 = S.begun ∧ RG r S.game
theorem RwIs_of {r r' : Nat → Int32} {S : St} (hS : StOk S) (h : ∀ i, i < 119 → r' i = r i) (hR : RwIs r S) : RwIs r' S := by
  obtain ⟨h0, h1, h2, h3, h4, h5, h6⟩ := hR
  obtain ⟨s1, s2, s3, s4, s5⟩ := hS
  refine ⟨(h 0 (by decide)).trans h0, (h 1 (by decide)).trans h1, (h 2 (by decide)).trans h2, (h 3 (by decide)).trans h3, fun i q hi => ?_, (h 6 (by decide)).trans h5, ?_⟩
  · have hil := (List.getElem?_eq_some_iff.mp hi).1
    have := s4.1
    rw [h _ (by omega), h _ (by omega)]
    exact h4 i q hi
  · unfold RG at h6 ⊢
    cases hg : S.game with
    | none => rw [hg] at h6; exact ⟨(h 4 (by decide)).trans h6.1, (h 5 (by decide)).trans h6.2⟩
    | some z =>
      obtain ⟨g, p⟩ := z
      rw [hg] at h6
      have hl := (s5 g p hg).1
      refine ⟨(h 4 (by decide)).trans h6.1, (h 5 (by decide)).trans h6.2.1, fun i q hi => ?_⟩
      have hil := (List.getElem?_eq_some_iff.mp hi).1
      rw [h _ (by omega), h _ (by omega)]
      exact h6.2.2 i q hi
def RSv (v : MU) (s : Option St) : Prop := match s with
  | none => v 117 5 = 0
  | some S => v 117 5 = 1 ∧ RwIs (v 121) S
def RWy (v : MU) (w : Option (Int32 × (Int32 × Int32))) : Prop := match w with
  | none => v 117 14 = 0
  | some (w, (d, i)) => v 117 14 = w ∧ v 117 15 = d ∧ v 117 16 = i
def RMem (v : MU) (A : Ab) : Prop := v 117 13 = A.fault ∧ RSv v A.sv ∧ v 117 3 = nI A.hist.length ∧ (∀ (j : Nat) S, A.hist[j]? = some S → RwIs (fun i => v 120 (119 * j + i)) S) ∧ v 117 9 = nI A.text.length ∧ (∀ (i : Nat) x, A.text[i]? = some x → v 123 i = x) ∧ v 117 7 = nI A.line.length ∧ (∀ (i : Nat) x, A.line[i]? = some x → v 122 i = x) ∧ RWy v A.why
def RI (v : MU) (A : Ab) : Prop := AbOk A ∧ RwIs (v 118) A.S ∧ RMem v A ∧ (v 117 22 = 0 ∨ (v 117 22 = 1 ∧ OIs v (slv A.S.cfg)))
/-- what there was before a change is tried, and the reader's place -/
abbrev Tr : Type := St × Int32
/-- while a change is tried: T is what there was -/
def RO (v : MU) (A : Ab) (T : Tr) : Prop := AbOk A ∧ RwIs (v 118) A.S ∧ RMem v A ∧ v 117 22 = 0 ∧ v 117 17 = 0 ∧ RwIs (v 119) T.1 ∧ v 117 10 = T.2
theorem RMem_of {v v' : MU} {A : Ab} (h1 : ∀ j, j ≠ 12 → j ≠ 11 → j ≠ 17 → j ≠ 22 → j ≠ 25 → v' 117 j = v 117 j) (h2 : ∀ a, 120 ≤ a → a ≤ 123 → v' a = v a) (hM : RMem v A) : RMem v' A := by
  have e3 := h1 3 (by decide) (by decide) (by decide) (by decide) (by decide)
  have e5 := h1 5 (by decide) (by decide) (by decide) (by decide) (by decide)
  have e7 := h1 7 (by decide) (by decide) (by decide) (by decide) (by decide)
  have e9 := h1 9 (by decide) (by decide) (by decide) (by decide) (by decide)
  have e13 := h1 13 (by decide) (by decide) (by decide) (by decide) (by decide)
  have e14 := h1 14 (by decide) (by decide) (by decide) (by decide) (by decide)
  have e15 := h1 15 (by decide) (by decide) (by decide) (by decide) (by decide)
  have e16 := h1 16 (by decide) (by decide) (by decide) (by decide) (by decide)
  unfold RMem RSv RWy at hM ⊢
  rw [e3, e5, e7, e9, e13, e14, e15, e16, h2 120 (by decide) (by decide), h2 121 (by decide) (by decide), h2 122 (by decide) (by decide), h2 123 (by decide) (by decide)]
  exact hM
theorem RO.c {v : MU} {A : Ab} {T : Tr} (h : RO v A T) : CfgOk A.S.cfg := h.1.1.cfg
theorem RO.R {v : MU} {A : Ab} {T : Tr} (h : RO v A T) : RIs v A.S.cfg := ⟨h.2.1.1, h.2.1.2.1, h.2.1.2.2.1⟩
theorem RI.c {v : MU} {A : Ab} (h : RI v A) : CfgOk A.S.cfg := h.1.1.cfg
theorem RI.R {v : MU} {A : Ab} (h : RI v A) : RIs v A.S.cfg := ⟨h.2.1.1, h.2.1.2.1, h.2.1.2.2.1⟩
/-- changes that no relation looks at while a change is tried -/
def OF (v v' : MU) : Prop := (∀ j, j ≠ 12 → j ≠ 11 → j ≠ 25 → v' 117 j = v 117 j) ∧ ∀ a, a ≠ 117 → a < 124 → v' a = v a
theorem OF.rf (v : MU) : OF v v := ⟨fun _ _ _ _ => rfl, fun _ _ _ => rfl⟩
theorem OF.tr {v v' v'' : MU} (h1 : OF v v') (h2 : OF v' v'') : OF v v'' := ⟨fun j a b d => (h2.1 j a b d).trans (h1.1 j a b d), fun a b d => (h2.2 a b d).trans (h1.2 a b d)⟩
theorem OF.ro {v v' : MU} {A : Ab} {T : Tr} (h : OF v v') (hO : RO v A T) : RO v' A T := by
  obtain ⟨o1, o2, o3, o4, o5, o6⟩ := hO
  exact ⟨o1, by rw [h.2 118 (by decide) (by decide)]; exact o2, RMem_of (fun j a b _ _ e => h.1 j a b e) (fun a ha hb => h.2 a (by omega) (by omega)) o3, by rw [h.1 22 (by decide) (by decide) (by decide)]; exact o4, by rw [h.1 17 (by decide) (by decide) (by decide)]; exact o5, by rw [h.2 119 (by decide) (by decide)]; exact o6.1, by rw [h.1 10 (by decide) (by decide) (by decide)]; exact o6.2⟩
theorem FL_OF {v v' : MU} (h : FL v v') : OF v v' := ⟨fun j a b d => h 117 j (fun z => d z.2) (by decide) (by decide) (by decide) (by decide), fun a ha hb => funext fun j => h a j (fun z => ha z.1) (by omega) (by omega) (by omega) (by omega)⟩
theorem FR_OF {v v' : MU} (h : FR v v') : OF v v' := FL_OF h.FL
/-! the neighbours are found from the paths -/
def NF (v v' : MU) : Prop := ∀ a, a ≠ 125 → v' a = v a
theorem NF_OF {v v' : MU} (h : NF v v') : OF v v' := ⟨fun j _ _ _ => by rw [h 117 (by decide)], fun a _ hb => h a (by omega)⟩
theorem near_or {n : Nat} {D : List (Nat × Nat)} {q : Nat × Nat} (hn : n ≤ 8) (h1 : q.1 < n) (h2 : q.2 < n) (h3 : q.1 ≠ q.2) {x : Nat} (hx : x < 8) : nearP (D ++ [q]) x = if x = q.2 then nearP D x ||| 2 ^ q.1 else if x = q.1 then nearP D x ||| 2 ^ q.2 else nearP D x := by
  refine Nat.eq_of_testBit_eq fun y => ?_
  rw [nearP_test, adjB_app]
  have sm : ∀ b, smP x y q = b → (decide (y < 8) && (adjB D x y || b)) = ((decide (y < 8) && adjB D x y) || (decide (y < 8) && b)) := fun b _ => by cases decide (y < 8) <;> rfl
  rw [sm _ rfl]
  by_cases e1 : x = q.2
  · rw [if_pos e1, fb_bit_set, nearP_test]
    congr 1
    have e : smP x y q = decide (y = q.1) := by
      unfold smP
      rw [decide_eq_false (show ¬ q.1 = x from fun z => h3 (z.trans e1)), Bool.false_and, Bool.false_or, decide_eq_true e1.symm, Bool.and_true, decide_eq_decide]
      exact ⟨Eq.symm, Eq.symm⟩
    rw [e]
    by_cases hy : y = q.1
    · rw [decide_eq_true hy, decide_eq_true (show y < 8 by omega)]; rfl
    · rw [decide_eq_false hy, Bool.and_false]
  · rw [if_neg e1]
    by_cases e2 : x = q.1
    · rw [if_pos e2, fb_bit_set, nearP_test]
      congr 1
      have e : smP x y q = decide (y = q.2) := by
        unfold smP
        rw [decide_eq_true e2.symm, Bool.true_and, decide_eq_false (show ¬ q.2 = x from fun z => e1 z.symm), Bool.and_false, Bool.or_false, decide_eq_decide]
        exact ⟨Eq.symm, Eq.symm⟩
      rw [e]
      by_cases hy : y = q.2
      · rw [decide_eq_true hy, decide_eq_true (show y < 8 by omega)]; rfl
      · rw [decide_eq_false hy, Bool.and_false]
    · rw [if_neg e2, nearP_test]
      have e : smP x y q = false := by
        unfold smP
        rw [decide_eq_false (show ¬ q.1 = x from fun z => e2 z.symm), decide_eq_false (show ¬ q.2 = x from fun z => e1 z.symm), Bool.false_and, Bool.and_false]; rfl
      rw [e, Bool.and_false, Bool.or_false]
theorem r_nears {v : MU} {S : St} (hS : StOk S) (hR : RwIs (v 118) S) {Q : MU → Prop} (hq : ∀ v', NF v v' → RNear v' S.cfg → Q v') : w_X10_nears v Q := by
  obtain ⟨h0, h1, h2, h3, h4, h5, h6⟩ := hR
  have hl := hS.2.2.2.1.1
  have hn := hS.1
  have second : ∀ (R D : List (Nat × Nat)) (v' : MU), S.ps = D ++ R → NF v v' → (∀ b, b < 8 → v' 125 b = nI (nearP D b)) → wl_X10_nears_23 Q (R.length + 1) (nI D.length) v' := by
    intro R
    induction R with
    | nil =>
      intro D v' hD f' n'
      rw [List.append_nil] at hD
      rw [List.length_nil, wl_X10_nears_23]
      refine ⟨vp_in_nI (n := 3) (by decide) (by decide), fun _ => hq v' f' (fun b hb => by show v' 125 b = nI (nearP S.ps b); rw [hD]; exact n' b hb), fun z => absurd ?_ z⟩
      rw [f' 118 (by decide), show ((3 : Int32)).toNatClampNeg = 3 from rfl, h3, hD]
      exact nI_le (Nat.le_refl _) (by rw [← hD]; omega)
    | cons q R ih =>
      intro D v' hD f' n'
      obtain ⟨g1, g2, g3, g4⟩ := getD hD
      obtain ⟨r1, r2⟩ := h4 _ q g1
      obtain ⟨q1, q2, q3⟩ := hS.2.2.2.1.2.1 q g3
      have i1 : (7 : Int32) + 2 * nI D.length = nI (7 + 2 * D.length) := by rw [show (7 : Int32) = nI 7 from rfl, show (2 : Int32) = nI 2 from rfl, pk_mul, nI_add]
      rw [List.length_cons, wl_X10_nears_23]
      have x1 : v' 118 (7 + 2 * D.length) = nI q.1 := by rw [f' 118 (by decide)]; exact r1
      have x2 : v' 118 (7 + 2 * D.length + 1) = nI q.2 := by rw [f' 118 (by decide)]; exact r2
      refine ⟨vp_in_nI (n := 3) (by decide) (by decide), fun z => absurd z (by rw [f' 118 (by decide), show ((3 : Int32)).toNatClampNeg = 3 from rfl, h3]; exact nI_ge (by omega) (by omega)), fun _ => ?_⟩
      rw [i1, nI_1]
      rw [show (nI (7 + 2 * D.length)).toNatClampNeg = 7 + 2 * D.length from nI_clamp (by omega), show (nI (7 + 2 * D.length + 1)).toNatClampNeg = 7 + 2 * D.length + 1 from nI_clamp (by omega)]
      have w1 : vp_in (nI (7 + 2 * D.length)) 119 := vp_in_nI (by omega) (by decide)
      have w2 : vp_in (nI (7 + 2 * D.length + 1)) 119 := vp_in_nI (by omega) (by decide)
      rw [x1, x2]
      have w3 : vp_in (nI q.1) 8 := vp_in_nI (by omega) (by decide)
      have w4 : vp_in (nI q.2) 8 := vp_in_nI (by omega) (by decide)
      refine ⟨w1, w3, w2, w3, fun a7 e7 => ?_⟩
      rw [show (nI q.1).toNatClampNeg = q.1 from nI_clamp (by omega), n' q.1 (by omega), tp_bit q.2 (by omega), fa_or] at e7
      have y1 : a7 118 (7 + 2 * D.length) = nI q.1 := by rw [e7, u2_ne (by decide)]; exact x1
      have y2 : a7 118 (7 + 2 * D.length + 1) = nI q.2 := by rw [e7, u2_ne (by decide)]; exact x2
      rw [y1, y2]
      refine ⟨w2, w4, w1, w4, fun a12 e12 x3 hx3 => ?_⟩
      rw [show (nI q.2).toNatClampNeg = q.2 from nI_clamp (by omega), tp_bit q.1 (by omega)] at e12
      have z2 : a7 125 q.2 = nI (nearP D q.2) := by rw [e7, u2_o (Or.inr (fun z => q3 z.symm))]; exact n' q.2 (by omega)
      rw [z2, fa_or] at e12
      rw [hx3, nI_1]
      have := ih (D ++ [q]) a12 g4 (fun a ha => by rw [e12, u2_ne ha, e7, u2_ne ha]; exact f' a ha) (fun b hb => ?_)
      · rw [List.length_append, List.length_singleton] at this
        exact this
      · rw [near_or hn q1 q2 q3 hb, e12]
        by_cases e1 : b = q.2
        · rw [e1, u2_at, if_pos rfl]
        · rw [u2_o (Or.inr e1), if_neg e1, e7]
          by_cases e2 : b = q.1
          · rw [e2, u2_at, if_pos rfl]
          · rw [u2_o (Or.inr e2), if_neg e2]; exact n' b hb
  have first : ∀ (n i : Nat) (v' : MU), i + n = 8 → NF v v' → (∀ b, b < i → v' 125 b = 0) → wl_X10_nears_2 Q (n + 1) (nI i) v' := by
    intro n
    induction n with
    | zero =>
      intro i v' hi f' n'
      rw [wl_X10_nears_2]
      exact ⟨fun _ => ⟨S.ps.length + 1, second S.ps [] v' rfl f' (fun b hb => n' b (by omega))⟩, fun z => absurd (nI_le (a := 8) (by omega) (by omega)) z⟩
    | succ n ih =>
      intro i v' hi f' n'
      rw [wl_X10_nears_2]
      refine ⟨fun z => absurd z (nI_ge (b := 8) (by omega) (by decide)), fun _ => ⟨vp_in_nI (by omega) (by decide), fun a3 e3 x1 hx1 => ?_⟩⟩
      rw [nI_clamp (by omega)] at e3
      rw [hx1, nI_1]
      refine ih (i + 1) a3 (by omega) (fun a ha => by rw [e3, u2_ne ha]; exact f' a ha) (fun b hb => ?_)
      by_cases e : b = i
      · rw [e3, e, u2_at]
      · rw [e3, u2_o (Or.inr e)]; exact n' b (by omega)
  unfold w_X10_nears
  exact ⟨9, first 8 0 v rfl (fun _ _ => rfl) (fun b hb => by omega)⟩
