/-! PATHS trodden and grown over, traps, geese: the class -/
theorem has_of {c : Cfg} (hc : CfgOk c) {x : Int32} (h : hasI c x = true) : x = nI (cl x) ∧ cl x < c.n := by
  obtain ⟨a, e, ha⟩ := hasI_of hc h
  have hn := hc.hn
  have : cl x = a := by rw [e]; exact nI_clamp (by omega)
  rw [this]
  exact ⟨e, ha⟩
theorem s_join {u : MU} {S : St} (hB : BIs u 1 S) (hl : S.ps.length < 16) {a b : Nat} (ha : a < 8) (hb : b < 8) (hab : a ≠ b) {Q : MU → Prop}
    (hq : ∀ u', (∀ a, (a < 2 ∨ 5 < a) → u' a = u a) → (∀ j, j ≠ 1 → u' 2 j = u 2 j) → u' 2 1 = nI (S.ps.length + 1) → (∀ (i : Nat) q, (S.ps ++ [(a, b)])[i]? = some q → u' 3 i = nI q.1 ∧ u' 4 i = nI q.2) → (∀ x, x < 8 → u' 5 x = nI (tglN (nearP S.ps) a b x)) → Q u') : w_X1_join 2 (nI a) (nI b) u Q := by
  have e1 : u 2 1 = nI S.ps.length := hB.2.1
  unfold w_X1_join
  rw [e1]
  refine s_put (N := 16) rfl hl (by decide) ?_
  rw [u2_ne (show (2 : Nat) ≠ 2 + 1 by decide), e1]
  refine s_put (N := 16) rfl hl (by decide) (fun u5 h5 => ?_)
  rw [u2_ne (show (2 : Nat) ≠ 2 + 2 by decide), u2_ne (show (2 : Nat) ≠ 2 + 1 by decide), e1, nI_1] at h5
  refine s_turnNear (k := 2) rfl (nr := nearP S.ps) (fun x hx => ?_) ha hb hab (fun u7 o7 t7 => ?_)
  · rw [h5, u2_ne (show (2 + 3 : Nat) ≠ 2 by decide), u2_ne (show (2 + 3 : Nat) ≠ 2 + 2 by decide), u2_ne (show (2 + 3 : Nat) ≠ 2 + 1 by decide)]
    exact hB.1.2.2.2 x hx
  · have g : ∀ x, x ≠ 5 → u7 x = u5 x := o7
    refine hq u7 (fun x hx => ?_) (fun j hj => ?_) ?_ (fun i q hi => ?_) t7
    · rw [g x (by omega), h5, u2_ne (by omega), u2_ne (by omega), u2_ne (by omega)]
    · rw [g 2 (by decide), h5, u2_o (Or.inr hj), u2_ne (by decide), u2_ne (by decide)]
    · rw [g 2 (by decide), h5, u2_at]
    · rw [g 3 (by decide), g 4 (by decide), h5, u2_ne (show (3 : Nat) ≠ 2 by decide), u2_ne (show (4 : Nat) ≠ 2 by decide), u2_ne (show (3 : Nat) ≠ 2 + 2 by decide)]
      rcases Nat.lt_or_ge i S.ps.length with z | z
      · rw [List.getElem?_append_left z] at hi
        have := hB.2.2.1 i q hi
        refine ⟨?_, ?_⟩
        · show u2 u (2 + 1) S.ps.length (nI a) (2 + 1) i = _
          rw [u2_o (Or.inr (by omega))]; exact this.1
        · show u2 (u2 u (2 + 1) S.ps.length (nI a)) (2 + 2) S.ps.length (nI b) (2 + 2) i = _
          rw [u2_o (Or.inr (by omega)), u2_ne (by decide)]; exact this.2
      · have hil := (List.getElem?_eq_some_iff.mp hi).1
        rw [List.length_append, List.length_singleton] at hil
        have hi2 : i = S.ps.length := by omega
        subst hi2
        rw [List.getElem?_append_right (Nat.le_refl _), Nat.sub_self, List.getElem?_cons_zero] at hi
        cases hi
        exact ⟨u2_at (k := 2 + 1), u2_at (k := 2 + 2)⟩
theorem s_part {u : MU} {S : St} (hS : StOk S) (hB : BIs u 1 S) {i : Nat} {q : Nat × Nat} (hi : S.ps[i]? = some q) {Q : MU → Prop}
    (hq : ∀ u', (∀ a, (a < 2 ∨ 5 < a) → u' a = u a) → (∀ j, j ≠ 1 → u' 2 j = u 2 j) → u' 2 1 = nI (S.ps.length - 1) → (∀ (m : Nat) q, (S.ps.eraseIdx i)[m]? = some q → u' 3 m = nI q.1 ∧ u' 4 m = nI q.2) → (∀ x, x < 8 → u' 5 x = nI (tglN (nearP S.ps) q.1 q.2 x)) → Q u') : w_X1_part 2 (nI i) u Q := by
  have e1 : u 2 1 = nI S.ps.length := hB.2.1
  have hil := (List.getElem?_eq_some_iff.mp hi).1
  have hl := hS.2.2.2.1.1
  have hn := hS.1
  obtain ⟨q1, q2, q3⟩ := hS.2.2.2.1.2.1 q (List.mem_of_getElem? hi)
  obtain ⟨r1, r2⟩ := hB.2.2.1 i q hi
  unfold w_X1_part
  refine s_at (N := 16) rfl (by omega) (by decide) (s_at (N := 16) rfl (by omega) (by decide) ?_)
  rw [show u (2 + 1) i = nI q.1 from r1, show u (2 + 2) i = nI q.2 from r2]
  refine s_turnNear (k := 2) rfl (nr := nearP S.ps) (fun x hx => hB.1.2.2.2 x hx) (by omega) (by omega) q3 (fun u6 o6 t6 u7 h7 => ⟨S.ps.length - 1 - i + 1, ?_⟩)
  have g6 : ∀ x, x ≠ 5 → u6 x = u x := o6
  have e7 : u7 2 1 = nI (S.ps.length - 1) := by rw [h7, u2_at, g6 2 (by decide), e1, nI_pr (by omega)]
  have g7 : ∀ x, x ≠ 2 → u7 x = u6 x := fun x hx => by rw [h7]; exact u2_ne hx
  have loop : ∀ (n j : Nat) (u8 : MU), n + j = S.ps.length - 1 → i ≤ j → (∀ x, x ≠ 3 → x ≠ 4 → u8 x = u7 x) → (∀ m, u8 3 m = if i ≤ m ∧ m < j then u7 3 (m + 1) else u7 3 m) → (∀ m, u8 4 m = if i ≤ m ∧ m < j then u7 4 (m + 1) else u7 4 m) → wl_X1_part_32 2 Q (n + 1) (nI j) u8 := by
    intro n
    induction n with
    | zero =>
      intro j u8 hj hij f8 a8 b8
      rw [wl_X1_part_32]
      refine ⟨fun _ => ?_, fun z => absurd ?_ z⟩
      · refine hq u8 (fun x hx => ?_) (fun x hx => ?_) ?_ (fun m q' hm => ?_) (fun x hx => ?_)
        · rw [f8 x (by omega) (by omega), g7 x (by omega), g6 x (by omega)]
        · rw [f8 2 (by decide) (by decide), h7, u2_o (Or.inr hx), g6 2 (by decide)]
        · rw [f8 2 (by decide) (by decide)]; exact e7
        · have hml := (List.getElem?_eq_some_iff.mp hm).1
          rw [List.length_eraseIdx_of_lt hil] at hml
          rw [List.getElem?_eraseIdx] at hm
          rw [a8 m, b8 m, g7 3 (by decide), g7 4 (by decide), g6 3 (by decide), g6 4 (by decide)]
          by_cases e : m < i
          · rw [if_pos e] at hm
            rw [if_neg (by omega), if_neg (by omega)]
            exact hB.2.2.1 m q' hm
          · rw [if_neg e] at hm
            rw [if_pos (by omega), if_pos (by omega)]
            exact hB.2.2.1 (m + 1) q' hm
        · rw [f8 5 (by decide) (by decide), g7 5 (by decide)]; exact t6 x hx
      · rw [f8 2 (by decide) (by decide), e7]; exact nI_le (by omega) (by omega)
    | succ n ih =>
      intro j u8 hj hij f8 a8 b8
      rw [wl_X1_part_32]
      refine ⟨fun z => absurd z (by rw [f8 2 (by decide) (by decide), e7]; exact nI_ge (by omega) (by omega)), fun _ => ?_⟩
      rw [nI_1]
      refine s_at (N := 16) rfl (by omega) (by decide) (s_put (N := 16) rfl (by omega) (by decide) (s_at (N := 16) rfl (by omega) (by decide) (s_put (N := 16) rfl (by omega) (by decide) (fun x2 hx2 => ?_))))
      rw [hx2]
      refine ih (j + 1) _ (by omega) (by omega) (fun x h3 h4 => ?_) (fun m => ?_) (fun m => ?_)
      · rw [u2_ne (show x ≠ 2 + 2 from h4), u2_ne (show x ≠ 2 + 1 from h3)]; exact f8 x h3 h4
      · rw [u2_ne (show (3 : Nat) ≠ 2 + 2 by decide)]
        by_cases e : m = j
        · subst e
          rw [if_pos ⟨hij, by omega⟩]
          refine (u2_at (k := 2 + 1)).trans ?_
          have := a8 (m + 1)
          rw [if_neg (by omega)] at this
          exact this
        · refine (u2_o (k := 2 + 1) (Or.inr e)).trans ?_
          rw [a8 m]
          by_cases z : i ≤ m ∧ m < j
          · rw [if_pos z, if_pos (by omega)]
          · rw [if_neg z, if_neg (by omega)]
      · by_cases e : m = j
        · subst e
          rw [if_pos ⟨hij, by omega⟩]
          refine (u2_at (k := 2 + 2)).trans ?_
          rw [u2_ne (show (2 + 2 : Nat) ≠ 2 + 1 by decide)]
          have := b8 (m + 1)
          rw [if_neg (by omega)] at this
          exact this
        · refine (u2_o (k := 2 + 2) (Or.inr e)).trans ?_
          rw [u2_ne (show (4 : Nat) ≠ 2 + 1 by decide), b8 m]
          by_cases z : i ≤ m ∧ m < j
          · rw [if_pos z, if_pos (by omega)]
          · rw [if_neg z, if_neg (by omega)]
  exact loop (S.ps.length - 1 - i) i u7 (by omega) (Nat.le_refl _) (fun _ _ _ => rfl) (fun m => by rw [if_neg (by omega)]) (fun m => by rw [if_neg (by omega)])
theorem s_tread {V : Nat → Cfg} {W : Nat} {u : MU} {A : Ab} {B : Bf} {i : Int32} (hC : CI V W u A B i) {x y : Int32} {Q : Int32 → MU → Prop} (hq : CRes V W A B i Q (opTread A.S x y)) : w_X9_addPath x y u Q := by
  have hS := hC.S
  have hc := hC.c
  have hF := hC.F
  unfold opTread at hq
  unfold w_X9_addPath
  refine s_missing hC (fun e1 => ⟨fun z => absurd rfl z, fun _ => ?_⟩) (fun e1 u' g => ⟨fun _ => ?_, fun z => absurd z (by decide)⟩)
  · rw [if_neg (by rw [e1]; decide)] at hq
    refine s_missing hC (fun e2 => ⟨fun _ => ?_, fun z => absurd rfl z⟩) (fun e2 u' g => ⟨fun z => absurd z (by decide), fun _ => ?_⟩)
    · rw [if_neg (by rw [e2]; decide)] at hq
      obtain ⟨hx, hxn⟩ := has_of hc e1
      obtain ⟨hy, hyn⟩ := has_of hc e2
      have hn := hS.1
      have hxn' : cl x < A.S.n := hxn
      have hyn' : cl y < A.S.n := hyn
      refine ⟨fun hne => ?_, fun he => ?_⟩
      · rw [if_neg hne] at hq
        have hab : cl x ≠ cl y := fun z => hne (by rw [hx, hy, z])
        have step : ∀ {P : Int32 → Prop}, P (optI (pix (cl x) (cl y) A.S.ps 0)) → w_X1_pathBetween 2 u x y P := fun {P} hP => by
          have := s_between hS hC.B (a := cl x) (b := cl y) (by omega) (by omega) hP
          rw [← hx, ← hy] at this
          exact this
        refine step ?_
        cases hp : pix (cl x) (cl y) A.S.ps 0 with
        | some j =>
          rw [hp] at hq
          obtain ⟨m, q, e3, e4, -⟩ := pix_some _ _ _ hp
          have hml := (List.getElem?_eq_some_iff.mp e4).1
          have hl := hS.2.2.2.1.1
          refine ⟨fun z => absurd m1_lt (by rw [← z]; exact nI_pos (by omega)), fun _ => s_refused hC (by decide) hq⟩
        | none =>
          rw [hp] at hq
          have h0 := (pix_none _ _).mp hp
          refine ⟨fun _ => ⟨fun z => ?_, fun z => ?_⟩, fun z => absurd rfl z⟩
          · rw [show u 2 1 = nI A.S.ps.length from hC.B.2.1] at z
            have hl : A.S.ps.length < 16 := (nI_ltI (b := 16) (by have := hS.2.2.2.1.1; omega) (by decide)).mp z
            rw [show (if A.S.ps.length < 16 then (Sum.inr (A.S.ps.length, mkS A.S.n A.S.traps A.S.geese (A.S.ps ++ [(cl x, cl y)]) none A.S.begun) : Rs) else .inl (2, 16)) = .inr (A.S.ps.length, mkS A.S.n A.S.traps A.S.geese (A.S.ps ++ [(cl x, cl y)]) none A.S.begun) from if_pos hl] at hq
            have hps := psOk_add hS.2.2.2.1 hxn' hyn' hab h0 hl
            have hS' : StOk (mkS A.S.n A.S.traps A.S.geese (A.S.ps ++ [(cl x, cl y)]) none A.S.begun) := ⟨hn, hS.2.1, hS.2.2.1, hps, fun h p e => by cases e⟩
            have J := s_join hC.B hl (a := cl x) (b := cl y) (by omega) (by omega) hab (Q := fun u_13 => w_X9_markChanged u_13 (fun u_15 => Q ((u_15 2 1) - (1 : Int32)) u_15)) (fun u' g1 g2 g3 g4 g5 => ?_)
            · rw [← hx, ← hy] at J
              exact J
            · refine s_marked hC hS' g1 ⟨?_, ?_, ?_, fun b hb => ?_⟩ ?_ g4 rfl rfl (fun u2' V' k1 k2 => ?_)
              · rw [g2 0 (by decide)]; exact hF.1
              · rw [g2 2 (by decide)]; exact hF.2.1
              · rw [g2 3 (by decide)]; exact hF.2.2.1
              · rw [g5 b hb]; exact congrArg nI (near_add hS.2.2.2.1 (by omega) (by omega) hab h0 hb).symm
              · rw [g3]; show _ = nI (A.S.ps ++ [(cl x, cl y)]).length; rw [List.length_append]; rfl
              · rw [k2 1 (by decide), g3, nI_pred]
                exact hq V' (W + 1) u2' (Nat.le_refl _) k1
          · rw [show u 2 1 = nI A.S.ps.length from hC.B.2.1] at z
            have hl : ¬ A.S.ps.length < 16 := fun z2 => z (nI_lt (b := 16) z2 (by decide))
            rw [show (if A.S.ps.length < 16 then (Sum.inr (A.S.ps.length, mkS A.S.n A.S.traps A.S.geese (A.S.ps ++ [(cl x, cl y)]) none A.S.begun) : Rs) else .inl (2, 16)) = .inl (2, 16) from if_neg hl] at hq
            exact s_refused hC (by decide) hq
      · rw [if_pos he] at hq
        exact s_refused hC (by decide) hq
    · rw [if_pos e2] at hq
      exact hq u' g
  · rw [if_pos e1] at hq
    exact hq u' g
