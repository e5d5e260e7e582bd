/-! the reference's changes of the field -/
def RRes (A : Ab) (T : Tr) (Q : Int32 → MU → Prop) : Rs → Prop
  | .inl (w, d) => ∀ v', RO v' (A.setWhy w d 0) T → Q (-1) v'
  | .inr (a, S) => ∀ v', RO v' (A.setS S) T → Q (nI a) v'
theorem r_refuses {v : MU} {A : Ab} {T : Tr} (hO : RO v A T) {w d : Int32} (h0 : ¬ w = 0) {Q : Int32 → MU → Prop} (hq : ∀ v', RO v' (A.setWhy w d 0) T → Q (-1) v') : w_X10_refuses w d v Q := by
  obtain ⟨o1, o2, o3, o4, o5, o6⟩ := hO
  unfold w_X10_refuses
  intro a1 e1 a2 e2 a3 e3
  have fr : ∀ a, a ≠ 117 → a3 a = v a := fun a ha => by rw [e3, u2_ne ha, e2, u2_ne ha, e1, u2_ne ha]
  have sl : ∀ j, j ≠ 14 → j ≠ 15 → j ≠ 16 → a3 117 j = v 117 j := fun j h1 h2 h3 => by rw [e3, u2_o (Or.inr h3), e2, u2_o (Or.inr h2), e1, u2_o (Or.inr h1)]
  obtain ⟨m1, m2, m3, m4, m5, m6, m7, m8, m9⟩ := o3
  refine hq a3 ⟨⟨o1.1, o1.2.1, o1.2.2.1, o1.2.2.2.1, o1.2.2.2.2.1, o1.2.2.2.2.2.1, o1.2.2.2.2.2.2.1, o1.2.2.2.2.2.2.2.1, fun w' d' i' e => by cases e; exact h0⟩, by rw [fr 118 (by decide)]; exact o2, ⟨by rw [sl 13 (by decide) (by decide) (by decide)]; exact m1, ?_, by rw [sl 3 (by decide) (by decide) (by decide)]; exact m3, by rw [fr 120 (by decide)]; exact m4, by rw [sl 9 (by decide) (by decide) (by decide)]; exact m5, by rw [fr 123 (by decide)]; exact m6, by rw [sl 7 (by decide) (by decide) (by decide)]; exact m7, by rw [fr 122 (by decide)]; exact m8, ?_, ?_, ?_⟩, by rw [sl 22 (by decide) (by decide) (by decide)]; exact o4, by rw [sl 17 (by decide) (by decide) (by decide)]; exact o5, by rw [fr 119 (by decide)]; exact o6.1, by rw [sl 10 (by decide) (by decide) (by decide)]; exact o6.2⟩
  · show RSv a3 A.sv
    unfold RSv at m2 ⊢
    rw [sl 5 (by decide) (by decide) (by decide), fr 121 (by decide)]
    exact m2
  · rw [e3, u2_o (Or.inr (by decide)), e2, u2_o (Or.inr (by decide)), e1, u2_at]
  · rw [e3, u2_o (Or.inr (by decide)), e2, u2_at]
  · rw [e3, u2_at]
theorem RO_now {v v' : MU} {A : Ab} {T : Tr} {S : St} (hO : RO v A T) (h1 : ∀ j, j ≠ 12 → j ≠ 11 → j ≠ 25 → v' 117 j = v 117 j) (h2 : ∀ a, a ≠ 117 → a ≠ 118 → a < 124 → v' a = v a) (hS : StOk S) (hR : RwIs (v' 118) S) : RO v' (A.setS S) T := by
  obtain ⟨o1, o2, o3, o4, o5, o6⟩ := hO
  exact ⟨⟨hS, o1.2⟩, hR, RMem_of (fun j a b _ _ e => h1 j a b e) (fun a ha hb => h2 a (by omega) (by omega) (by omega)) o3, by rw [h1 22 (by decide) (by decide) (by decide)]; exact o4, by rw [h1 17 (by decide) (by decide) (by decide)]; exact o5, by rw [h2 119 (by decide) (by decide) (by decide)]; exact o6.1, by rw [h1 10 (by decide) (by decide) (by decide)]; exact o6.2⟩
theorem c0 : ((0 : Int32)).toNatClampNeg = 0 := rfl
theorem c1 : ((1 : Int32)).toNatClampNeg = 1 := rfl
theorem c2 : ((2 : Int32)).toNatClampNeg = 2 := rfl
theorem c3 : ((3 : Int32)).toNatClampNeg = 3 := rfl
theorem c4 : ((4 : Int32)).toNatClampNeg = 4 := rfl
theorem c5 : ((5 : Int32)).toNatClampNeg = 5 := rfl
theorem c6 : ((6 : Int32)).toNatClampNeg = 6 := rfl
theorem i119 {n : Nat} (h : n < 119) : vp_in (nI n) 119 := vp_in_nI h (by decide)
theorem r_endsGame {v : MU} {Q : MU → Prop} (hq : ∀ v', OnlyR 118 v v' → v' 118 4 = 0 → v' 118 5 = 0 → (∀ j, j ≠ 4 → j ≠ 5 → v' 118 j = v 118 j) → Q v') : w_X10_endsGame v Q := by
  unfold w_X10_endsGame
  refine ⟨i119 (n := 4) (by decide), fun a2 e2 => ⟨i119 (n := 5) (by decide), fun a4 e4 => hq a4 (fun a ha => ?_) ?_ ?_ (fun j h1 h2 => ?_)⟩⟩
  · rw [e4, u2_ne ha, e2, u2_ne ha]
  · rw [e4, c5, u2_o (Or.inr (by decide)), e2, c4, u2_at]
  · rw [e4, c5, u2_at]
  · rw [e4, c5, u2_o (Or.inr h2), e2, c4, u2_o (Or.inr h1)]
theorem R118 {v v' : MU} (h : ∀ a, a ≠ 118 → v' a = v a) : (∀ j, j ≠ 12 → j ≠ 11 → j ≠ 25 → v' 117 j = v 117 j) ∧ ∀ a, a ≠ 117 → a ≠ 118 → a < 124 → v' a = v a := ⟨fun j _ _ _ => by rw [h 117 (by decide)], fun a _ ha _ => h a ha⟩
theorem r_digs {v : MU} {A : Ab} {T : Tr} (hO : RO v A T) {Q : Int32 → MU → Prop} (hq : RRes A T Q (opDig A.S)) : w_X10_digs v Q := by
  obtain ⟨h0, h1, h2, h3, h4, h5, h6⟩ := hO.2.1
  obtain ⟨s1, s2, s3, s4, s5⟩ := hO.1.1
  unfold opDig at hq
  unfold w_X10_digs
  rw [c0, h0]
  refine ⟨i119 (n := 0) (by decide), fun z => ?_, fun z => ?_⟩
  · have hn : A.S.n < 8 := by
      rcases Nat.lt_or_ge A.S.n 8 with e | e
      · exact e
      · exact absurd (by rw [show A.S.n = 8 by omega]; rfl) z
    rw [if_pos hn] at hq
    refine r_endsGame (fun v4 f4 g4 g5 k4 => ⟨i119 (n := 0) (by decide), i119 (n := 0) (by decide), fun a7 e7 => ?_⟩)
    have x0 : v4 118 0 = nI A.S.n := by rw [k4 0 (by decide) (by decide)]; exact h0
    rw [x0, nI_1] at e7
    rw [x0]
    have f7 : ∀ a, a ≠ 118 → a7 a = v a := fun a ha => by rw [e7, u2_ne ha]; exact f4 a ha
    have sl : ∀ j, j ≠ 0 → j ≠ 4 → j ≠ 5 → a7 118 j = v 118 j := fun j a b d => by rw [e7, u2_o (Or.inr a)]; exact k4 j b d
    refine hq a7 (RO_now hO (R118 f7).1 (R118 f7).2 ⟨by show A.S.n + 1 ≤ 8; omega, s2, s3, psOk_mono (Nat.le_succ _) s4, fun h p e => by cases e⟩ ⟨?_, ?_, ?_, ?_, fun i q hi => ?_, ?_, ?_, ?_⟩)
    · rw [e7, u2_at]; rfl
    · rw [sl 1 (by decide) (by decide) (by decide)]; exact h1
    · rw [sl 2 (by decide) (by decide) (by decide)]; exact h2
    · rw [sl 3 (by decide) (by decide) (by decide)]; exact h3
    · rw [sl _ (by omega) (by omega) (by omega), sl _ (by omega) (by omega) (by omega)]; exact h4 i q hi
    · rw [sl 6 (by decide) (by decide) (by decide)]; exact h5
    · rw [e7, u2_o (Or.inr (by decide))]; exact g4
    · rw [e7, u2_o (Or.inr (by decide))]; exact g5
  · have hn : ¬ A.S.n < 8 := fun e => by
      have := (nI_eq (b := 8) (by omega) (by decide)).mp z
      omega
    rw [if_neg hn] at hq
    exact r_refuses hO (by decide) hq
theorem r_lacks {v : MU} {A : Ab} {T : Tr} (hO : RO v A T) {x y : Int32} {Q : Int32 → MU → Prop} (h1 : hasI A.S.cfg x = false → ∀ v', RO v' (A.setWhy 3 x 0) T → Q (-1) v') (h2 : hasI A.S.cfg x = true → hasI A.S.cfg y = false → ∀ v', RO v' (A.setWhy 3 y 0) T → Q (-1) v') (h3 : hasI A.S.cfg x = true → hasI A.S.cfg y = true → Q 0 v) : w_X10_lacks x y v Q := by
  unfold w_X10_lacks
  refine r_isBurrow hO.c hO.R (bI_br2 (fun e => r_refuses hO (by decide) (h1 e)) (fun e => ?_))
  exact r_isBurrow hO.c hO.R (bI_br (fun e2 => r_refuses hO (by decide) (h2 e e2)) (fun e2 => h3 e e2))
theorem i7 (n : Nat) : (7 : Int32) + 2 * nI n = nI (7 + 2 * n) := by rw [show (7 : Int32) = nI 7 from rfl, show (2 : Int32) = nI 2 from rfl, pk_mul, nI_add]
theorem r_path {v : MU} {S : St} (hS : StOk S) (hR : RwIs (v 118) S) {a b : Nat} (ha : a < 8) (hb : b < 8) {Q : Int32 → Prop} (hq : Q (optI (pix a b S.ps 0))) : w_X10_path v (nI a) (nI b) Q := by
  obtain ⟨h0, h1, h2, h3, h4, h5, h6⟩ := hR
  have hl := hS.2.2.2.1.1
  have hn := hS.1
  have loop : ∀ (t d : List (Nat × Nat)), S.ps = d ++ t → Q (optI (pix a b t d.length)) → wl_X10_path_2 v Q (t.length + 1) (nI a) (nI b) (nI d.length) := by
    intro t
    induction t with
    | nil =>
      intro d hd hq
      rw [List.append_nil] at hd
      rw [List.length_nil, wl_X10_path_2, c3, h3]
      refine ⟨i119 (n := 3) (by decide), fun _ => hq, fun z => absurd ?_ z⟩
      rw [hd]; exact nI_le (Nat.le_refl _) (by rw [← hd]; omega)
    | cons q t ih =>
      intro d hd hq
      obtain ⟨g1, g2, g3, g4⟩ := getD hd
      obtain ⟨r1, r2⟩ := h4 d.length q g1
      have hqn := hS.2.2.2.1.2.1 q g3
      rw [pix] at hq
      rw [List.length_cons, wl_X10_path_2, c3, h3, i7, nI_1, show (nI (7 + 2 * d.length)).toNatClampNeg = 7 + 2 * d.length from nI_clamp (by omega), show (nI (7 + 2 * d.length + 1)).toNatClampNeg = 7 + 2 * d.length + 1 from nI_clamp (by omega), r1, r2]
      refine ⟨i119 (n := 3) (by decide), fun z => absurd z (nI_ge (by omega) (by omega)), fun _ => ⟨i119 (by omega), fun x4 hx4 => ⟨i119 (by omega), fun x5 hx5 => ?_⟩⟩⟩
      rw [hx4, hx5]
      have next : smP a b q = false → wb_X10_path_66 (fun x1' x2' x3' => wl_X10_path_2 v Q (t.length + 1) x1' x2' x3') v Q (nI a) (nI b) (nI d.length) := fun e x3 hx3 => by
        rw [hx3, nI_1]
        rw [e, if_neg Bool.false_ne_true] at hq
        have := ih (d ++ [q]) g4 (by rw [List.length_append, List.length_singleton]; exact hq)
        rw [List.length_append, List.length_singleton] at this
        exact this
      have yes : smP a b q = true → Q (nI d.length) := fun e => by rw [if_pos e] at hq; exact hq
      have i1 := nI_eq (a := q.1) (b := a) (by omega) (by omega)
      have i2 := nI_eq (a := q.2) (b := b) (by omega) (by omega)
      have i3 := nI_eq (a := q.1) (b := b) (by omega) (by omega)
      have i4 := nI_eq (a := q.2) (b := a) (by omega) (by omega)
      have no : ¬ ((q.1 = a ∧ q.2 = b) ∨ (q.1 = b ∧ q.2 = a)) → smP a b q = false := fun z => by
        cases e : smP a b q
        · rfl
        · exact absurd (smP_spec.mp e) z
      have swap : ¬ (q.1 = a ∧ q.2 = b) → wb_X10_path_52 (fun x1' x2' x3' => wl_X10_path_2 v Q (t.length + 1) x1' x2' x3') v Q (nI a) (nI b) (nI d.length) (nI q.1) (nI q.2) := fun hn => by
        unfold wb_X10_path_52
        refine ⟨fun z => next (no (fun z2 => ?_)), fun z => ⟨fun z3 => next (no (fun z2 => ?_)), fun z3 => yes (smP_spec.mpr (Or.inr ⟨i3.mp z, i4.mp z3⟩))⟩⟩
        · rcases z2 with z2 | z2
          · exact hn z2
          · exact z (i3.mpr z2.1)
        · rcases z2 with z2 | z2
          · exact hn z2
          · exact z3 (i4.mpr z2.2)
      exact ⟨fun z => swap (fun z2 => z (i1.mpr z2.1)), fun z => ⟨fun z2 => yes (smP_spec.mpr (Or.inl ⟨i1.mp z, i2.mp z2⟩)), fun z2 => swap (fun z3 => z2 (i2.mpr z3.2))⟩⟩
  unfold w_X10_path
  exact ⟨S.ps.length + 1, loop S.ps [] rfl hq⟩
theorem r_treads {v : MU} {A : Ab} {T : Tr} (hO : RO v A T) {x y : Int32} {Q : Int32 → MU → Prop} (hq : RRes A T Q (opTread A.S x y)) : w_X10_treads x y v Q := by
  obtain ⟨h0, h1, h2, h3, h4, h5, h6⟩ := hO.2.1
  have hS := hO.1.1
  have hc := hO.c
  unfold opTread at hq
  unfold w_X10_treads
  refine r_lacks hO (fun e v' g => ?_) (fun e e2 v' g => ?_) (fun e e2 => ?_)
  · rw [if_pos e] at hq
    exact ⟨fun z => absurd z (by decide), fun _ => hq v' g⟩
  · rw [if_neg (by rw [e]; decide), if_pos e2] at hq
    exact ⟨fun z => absurd z (by decide), fun _ => hq v' g⟩
  · rw [if_neg (by rw [e]; decide), if_neg (by rw [e2]; decide)] at hq
    obtain ⟨hx, hxn⟩ := has_of hc e
    obtain ⟨hy, hyn⟩ := has_of hc e2
    have hn := hS.1
    have hl := hS.2.2.2.1.1
    have hxn' : cl x < A.S.n := hxn
    have hyn' : cl y < A.S.n := hyn
    refine ⟨fun _ => ⟨fun hne => ?_, fun he => ?_⟩, fun z => absurd (by decide) z⟩
    · rw [if_neg hne] at hq
      have hab : cl x ≠ cl y := fun z => hne (by rw [hx, hy, z])
      have step : ∀ {P : Int32 → Prop}, P (optI (pix (cl x) (cl y) A.S.ps 0)) → w_X10_path v x y P := fun {P} hP => by
        have := r_path hS hO.2.1 (a := cl x) (b := cl y) (by omega) (by omega) hP
        rw [← hx, ← hy] at this
        exact this
      refine step ?_
      cases hp : pix (cl x) (cl y) A.S.ps 0 with
      | some j =>
        rw [hp] at hq
        obtain ⟨m, q, e3, e4, -⟩ := pix_some _ _ _ hp
        have hml := (List.getElem?_eq_some_iff.mp e4).1
        exact ⟨fun z => absurd z (nI_pos (show j < 2 ^ 31 by omega)), fun _ => r_refuses hO (by decide) hq⟩
      | none =>
        rw [hp] at hq
        have hA0 := (pix_none _ _).mp hp
        rw [c3, h3]
        refine ⟨fun _ => ⟨i119 (n := 3) (by decide), fun z => ?_, fun z => ?_⟩, fun z => absurd m1_lt z⟩
        · have hl16 : A.S.ps.length < 16 := by
            rcases Nat.lt_or_ge A.S.ps.length 16 with e3 | e3
            · exact e3
            · exact absurd (by rw [show A.S.ps.length = 16 by omega]; rfl) z
          have hq : RRes A T Q (.inr (A.S.ps.length, mkS A.S.n A.S.traps A.S.geese (A.S.ps ++ [(cl x, cl y)]) none A.S.begun)) := by
            have hq' : RRes A T Q (if A.S.ps.length < 16 then .inr (A.S.ps.length, mkS A.S.n A.S.traps A.S.geese (A.S.ps ++ [(cl x, cl y)]) none A.S.begun) else .inl (2, 16)) := hq
            rw [if_pos hl16] at hq'
            exact hq'
          refine r_endsGame (fun v4 f4 g4 g5 k4 => ⟨i119 (n := 3) (by decide), ?_⟩)
          have x0 : v4 118 3 = nI A.S.ps.length := by rw [k4 3 (by decide) (by decide)]; exact h3
          rw [x0, i7, show (nI (7 + 2 * A.S.ps.length)).toNatClampNeg = 7 + 2 * A.S.ps.length from nI_clamp (by omega)]
          refine ⟨i119 (by omega), fun a14 e14 => ⟨i119 (n := 3) (by decide), ?_⟩⟩
          have x1 : a14 118 3 = nI A.S.ps.length := by rw [e14, u2_o (Or.inr (by omega))]; exact x0
          rw [x1, i7, nI_1, show (nI (7 + 2 * A.S.ps.length + 1)).toNatClampNeg = 7 + 2 * A.S.ps.length + 1 from nI_clamp (by omega)]
          refine ⟨i119 (by omega), fun a17 e17 => ⟨i119 (n := 3) (by decide), i119 (n := 3) (by decide), fun a20 e20 => ?_⟩⟩
          have x2 : a17 118 3 = nI A.S.ps.length := by rw [e17, u2_o (Or.inr (by omega))]; exact x1
          rw [x2, nI_1] at e20
          rw [x2]
          have f20 : ∀ a, a ≠ 118 → a20 a = v a := fun a ha => by rw [e20, u2_ne ha, e17, u2_ne ha, e14, u2_ne ha]; exact f4 a ha
          have sl : ∀ j, j ≠ 3 → j ≠ 4 → j ≠ 5 → j ≠ 7 + 2 * A.S.ps.length → j ≠ 7 + 2 * A.S.ps.length + 1 → a20 118 j = v 118 j := fun j a b d e f => by rw [e20, u2_o (Or.inr a), e17, u2_o (Or.inr f), e14, u2_o (Or.inr e)]; exact k4 j b d
          refine hq a20 (RO_now hO (R118 f20).1 (R118 f20).2 ⟨hn, hS.2.1, hS.2.2.1, psOk_add hS.2.2.2.1 hxn' hyn' hab hA0 hl16, fun h p e => by cases e⟩ ⟨?_, ?_, ?_, ?_, fun i q hi => ?_, ?_, ?_, ?_⟩)
          · rw [sl 0 (by decide) (by decide) (by decide) (by omega) (by omega)]; exact h0
          · rw [sl 1 (by decide) (by decide) (by decide) (by omega) (by omega)]; exact h1
          · rw [sl 2 (by decide) (by decide) (by decide) (by omega) (by omega)]; exact h2
          · rw [e20, u2_at]; show _ = nI (A.S.ps ++ [(cl x, cl y)]).length; rw [List.length_append]; rfl
          · have hi' : (A.S.ps ++ [(cl x, cl y)])[i]? = some q := hi
            rcases Nat.lt_or_ge i A.S.ps.length with z2 | z2
            · rw [List.getElem?_append_left z2] at hi'
              rw [sl _ (by omega) (by omega) (by omega) (by omega) (by omega), sl _ (by omega) (by omega) (by omega) (by omega) (by omega)]
              exact h4 i q hi'
            · have hil := (List.getElem?_eq_some_iff.mp hi').1
              rw [List.length_append, List.length_singleton] at hil
              have hi2 : i = A.S.ps.length := by omega
              subst hi2
              rw [List.getElem?_append_right (Nat.le_refl _), Nat.sub_self, List.getElem?_cons_zero] at hi'
              cases hi'
              refine ⟨?_, ?_⟩
              · rw [e20, u2_o (Or.inr (by omega)), e17, u2_o (Or.inr (by omega)), e14, u2_at]; exact hx
              · rw [e20, u2_o (Or.inr (by omega)), e17, u2_at]; exact hy
          · rw [sl 6 (by decide) (by decide) (by decide) (by omega) (by omega)]; exact h5
          · rw [e20, u2_o (Or.inr (by decide)), e17, u2_o (Or.inr (by omega)), e14, u2_o (Or.inr (by omega))]; exact g4
          · rw [e20, u2_o (Or.inr (by decide)), e17, u2_o (Or.inr (by omega)), e14, u2_o (Or.inr (by omega))]; exact g5
        · have hl16 : ¬ A.S.ps.length < 16 := fun e3 => by
            have := (nI_eq (b := 16) (by omega) (by decide)).mp z
            omega
          have hq' : RRes A T Q (if A.S.ps.length < 16 then .inr (A.S.ps.length, mkS A.S.n A.S.traps A.S.geese (A.S.ps ++ [(cl x, cl y)]) none A.S.begun) else .inl (2, 16)) := hq
          rw [if_neg hl16] at hq'
          exact r_refuses hO (by decide) hq'
    · rw [if_pos he] at hq
      exact r_refuses hO (by decide) hq
