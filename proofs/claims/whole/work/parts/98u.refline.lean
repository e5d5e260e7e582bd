/-! the reference's line -/
def LnS (v v' : MU) (T : List Int32) : Prop := v' 117 7 = nI T.length ∧ (∀ (i : Nat) x, T[i]? = some x → v' 122 i = x) ∧ (∀ j, j ≠ 7 → v' 117 j = v 117 j) ∧ ∀ a, a ≠ 117 → a ≠ 122 → v' a = v a
theorem LnS.put {v v' a1 a2 : MU} {T : List Int32} {s : Int32} (h : LnS v v' T) (hl : T.length < 200) (hs : chI s) (e1 : a1 = u2 v' 117 7 (v' 117 7 + 1)) (e2 : a2 = u2 a1 122 (v' 117 7).toNatClampNeg (vp_nar .char s)) : LnS v a2 (T ++ [s]) := by
  obtain ⟨h1, h2, h3, h4⟩ := h
  rw [h1, nI_1] at e1
  rw [h1, nI_clamp (by omega), chI_nar hs] at e2
  refine ⟨by rw [e2, u2_ne (by decide), e1, u2_at, List.length_append, List.length_singleton], fun i x hi => ?_, fun j hj => by rw [e2, u2_ne (by decide), e1, u2_o (Or.inr hj)]; exact h3 j hj, fun a ha hb => by rw [e2, u2_ne hb, e1, u2_ne ha]; exact h4 a ha hb⟩
  rcases Nat.lt_trichotomy i T.length with z | z | z
  · rw [List.getElem?_append_left z] at hi
    rw [e2, u2_o (Or.inr (by omega)), e1, u2_ne (by decide)]
    exact h2 i x hi
  · rw [z, List.getElem?_append_right (Nat.le_refl _), Nat.sub_self] at hi
    rw [z, e2, u2_at]
    exact Option.some.inj hi
  · rw [List.getElem?_eq_none (by rw [List.length_append, List.length_singleton]; omega)] at hi
    cases hi
theorem LnS.vp {v v' : MU} {T : List Int32} (h : LnS v v' T) (hl : T.length < 200) : vp_in (v' 117 7) 200 := by rw [h.1]; exact vp_in_nI hl (by decide)
theorem i79 (n : Nat) : (79 : Int32) + nI n = nI (79 + n) := by rw [show (79 : Int32) = nI 79 from rfl, nI_add]
theorem i39 (n : Nat) : (39 : Int32) + nI n = nI (39 + n) := by rw [show (39 : Int32) = nI 39 from rfl, nI_add]
theorem r_line {v : MU} {A : Ab} (hI : RI v A) {Q : Int32 → MU → Prop} (hq : ∀ v', RI v' (a_line A).2 → v' 117 17 = 0 → Q (a_line A).1 v') : w_X10_line v Q := by
  obtain ⟨o1, o2, o3, o4⟩ := hI
  have hG := o2.2.2.2.2.2.2
  unfold RG at hG
  unfold w_X10_line
  intro a1 e1 a2 e2
  have s2 : ∀ j, j ≠ 7 → j ≠ 17 → a2 117 j = v 117 j := fun j h1 h2 => by rw [e2, u2_o (Or.inr h1), e1, u2_o (Or.inr h2)]
  have f2 : ∀ a, a ≠ 117 → a2 a = v a := fun a ha => by rw [e2, u2_ne ha, e1, u2_ne ha]
  have z17 : a2 117 17 = 0 := by rw [e2, u2_o (Or.inr (by decide)), e1, u2_at]
  have l0 : LnS a2 a2 [] := ⟨by rw [e2, u2_at]; rfl, fun i x hi => by simp at hi, fun _ _ => rfl, fun _ _ _ => rfl⟩
  have fin : ∀ (T : List Int32) (v' : MU), LnS a2 v' T → T = lineT A.S.game → T.length ≤ 160 → (∀ x, x ∈ T → chI x) → Q (v' 117 7) v' := fun T v' h hT hl hc => by
    obtain ⟨h1, h2, h3, h4⟩ := h
    have ha : a_line A = (nI T.length, A.setL T) := by unfold a_line; rw [hT]
    rw [ha] at hq
    rw [h1]
    have ps : ∀ j, j ≠ 7 → j ≠ 17 → v' 117 j = v 117 j := fun j hj hk => by rw [h3 j hj]; exact s2 j hj hk
    have pf : ∀ a, a ≠ 117 → a ≠ 122 → v' a = v a := fun a ha hb => by rw [h4 a ha hb]; exact f2 a ha
    refine hq v' ?_ (by rw [h3 17 (by decide)]; exact z17)
    obtain ⟨m1, m2, m3, m4, m5, m6, m7, m8, m9⟩ := o3
    refine ⟨⟨o1.1, o1.2.1, o1.2.2.1, o1.2.2.2.1, o1.2.2.2.2.1, o1.2.2.2.2.2.1, hl, hc, o1.2.2.2.2.2.2.2.2⟩, by rw [pf 118 (by decide) (by decide)]; exact o2, ⟨by rw [ps 13 (by decide) (by decide)]; exact m1, ?_, by rw [ps 3 (by decide) (by decide)]; exact m3, by rw [pf 120 (by decide) (by decide)]; exact m4, by rw [ps 9 (by decide) (by decide)]; exact m5, by rw [pf 123 (by decide) (by decide)]; exact m6, h1, h2, ?_⟩, ?_⟩
    · show RSv v' A.sv
      unfold RSv at m2 ⊢
      rw [ps 5 (by decide) (by decide), pf 121 (by decide) (by decide)]
      exact m2
    · show RWy v' A.why
      unfold RWy at m9 ⊢
      rw [ps 14 (by decide) (by decide), ps 15 (by decide) (by decide), ps 16 (by decide) (by decide)]
      exact m9
    · rw [ps 22 (by decide) (by decide)]
      rcases o4 with z | ⟨z, z2⟩
      · exact Or.inl z
      · exact Or.inr ⟨z, fun q hq => by rw [pf 126 (by decide) (by decide), pf 127 (by decide) (by decide)]; exact z2 q hq⟩
  cases hg : A.S.game with
  | none =>
    rw [hg] at hG
    refine ⟨1, ?_⟩
    rw [wl_X10_line_12, c5, f2 118 (by decide), hG.2]
    exact ⟨i119 (n := 5) (by decide), fun _ => fin [] a2 l0 (by rw [hg]; rfl) (by decide) (fun x hx => absurd hx List.not_mem_nil), fun z => absurd (by decide) z⟩
  | some z =>
    obtain ⟨h, p⟩ := z
    rw [hg] at hG
    obtain ⟨k1, k2, k3⟩ := o1.1.2.2.2.2 h p hg
    obtain ⟨g1, g2, g3⟩ := hG
    have loop : ∀ (R D : List (Nat × Nat)) (v' : MU), h = D ++ R → LnS a2 v' (D.foldl lnAdd []) → (∀ x, x ∈ D.foldl lnAdd [] → chI x) → wl_X10_line_12 Q (R.length + 1) (nI D.length) v' := by
      intro R
      induction R with
      | nil =>
        intro D v' hD t' c'
        rw [List.append_nil] at hD
        rw [List.length_nil, wl_X10_line_12, c5, t'.2.2.2 118 (by decide) (by decide), f2 118 (by decide), g2, hD]
        refine ⟨i119 (n := 5) (by decide), fun _ => ?_, fun z => absurd (nI_le (Nat.le_refl _) (by rw [← hD]; omega)) z⟩
        have hlen := ln_len D
        rw [← hD] at hlen c'
        rw [← hD] at t'
        exact fin _ v' t' (by rw [hg]; rfl) (by rw [hlen]; split <;> omega) c'
      | cons q R ih =>
        intro D v' hD t' c'
        obtain ⟨q4, q5, q6, q7⟩ := getD hD
        obtain ⟨q1, q2⟩ := k3 q q6
        have hq12 := (posB_spec.mp q1).1
        obtain ⟨r1, r2⟩ := g3 _ q q4
        have hlen := ln_len D
        have tl : tu q.1 = 0 ∨ tu q.1 = 1 := by have := tu_lt q.1; omega
        have row : ∀ {u' : MU} {T : List Int32}, LnS a2 u' T → u' 118 = v 118 := fun {u' T} t => by rw [t.2.2.2 118 (by decide) (by decide), f2 118 (by decide)]
        have rest : ∀ (T : List Int32) (u2' : MU), T.length + 3 ≤ 160 → LnS a2 u2' T → T ++ lnOne q = lnAdd (D.foldl lnAdd []) q → wb_X10_line_44 (fun x1' u' => wl_X10_line_12 Q (R.length + 1) x1' u') Q (nI D.length) u2' := fun T u2' hT t2 e2 => by
          have last : ∀ (s : Int32) (u4 u5 : MU), s = (if tu q.1 = 1 then (103 : Int32) else 102) → LnS a2 u4 (T ++ [nI (48 + q.2 / 8)]) → u5 = u2 u4 117 7 (u4 117 7 + 1) → wb_X10_line_113 (fun x1' u' => wl_X10_line_12 Q (R.length + 1) x1' u') Q (nI D.length) s (u4 117 7) u5 := fun s u4 u5 hs t4 e5 => by
            have hl4 : (T ++ [nI (48 + q.2 / 8)]).length = T.length + 1 := by rw [List.length_append, List.length_singleton]
            have hsc : chI s := by
              rw [hs]; split
              · exact chI_n (n := 103) (by decide)
              · exact chI_n (n := 102) (by decide)
            unfold wb_X10_line_113
            refine ⟨t4.vp (by omega), fun u6 e6 => ?_⟩
            have t6 := t4.put (by omega) hsc e5 e6
            have hl6 : ((T ++ [nI (48 + q.2 / 8)]) ++ [s]).length = T.length + 2 := by rw [List.length_append, List.length_singleton, hl4]
            intro u7 e7
            rw [i79]
            refine ⟨i119 (by omega), t6.vp (by omega), fun u8 e8 x1 hx1 => ?_⟩
            have rw7 : u7 118 (nI (79 + D.length)).toNatClampNeg = nI q.2 := by
              rw [e7, u2_ne (by decide), row t6, show (nI (79 + D.length)).toNatClampNeg = 79 + D.length from nI_clamp (by omega)]; exact r2
            rw [rw7, show nI q.2 - nI q.2 / 8 * 8 = nI (q.2 % 8) from pk_rem (d := 8) (by omega) (by decide) (by decide), i_digit _ (by omega)] at e8
            have t8 := t6.put (by omega) (chI_n (by omega)) e7 e8
            rw [hx1, nI_1]
            have et : (T ++ [nI (48 + q.2 / 8)] ++ [s]) ++ [nI (48 + q.2 % 8)] = (D ++ [q]).foldl lnAdd [] := by
              rw [List.foldl_append, List.foldl_cons, List.foldl_nil, ← e2, hs]
              unfold lnOne
              simp
            rw [et] at t8
            have := ih (D ++ [q]) u8 q7 t8 (by rw [List.foldl_append, List.foldl_cons, List.foldl_nil]; exact lnAdd_ch c' q2)
            rw [List.length_append, List.length_singleton] at this
            exact this
          unfold wb_X10_line_44
          intro b1 y1
          rw [i79, i39]
          refine ⟨i119 (by omega), t2.vp (by omega), fun b4 y4 b5 y5 => ⟨i119 (by omega), ?_⟩⟩
          have rw1 : b1 118 (nI (79 + D.length)).toNatClampNeg = nI q.2 := by
            rw [y1, u2_ne (by decide), row t2, show (nI (79 + D.length)).toNatClampNeg = 79 + D.length from nI_clamp (by omega)]; exact r2
          rw [rw1, show nI q.2 / 8 = nI (q.2 / 8) from pk_div (d := 8) (by omega) (by decide) (by decide), i_digit _ (by omega)] at y4
          have t4 := t2.put (by omega) (chI_n (by omega)) y1 y4
          have rw5 : b5 118 (nI (39 + D.length)).toNatClampNeg = nI q.1 := by
            rw [y5, u2_ne (by decide), row t4, show (nI (39 + D.length)).toNatClampNeg = 39 + D.length from nI_clamp (by omega)]; exact r1
          rw [rw5]
          refine r_tu hq12 ?_
          rcases tl with z | z <;> rw [z]
          · exact jj0 (last _ b4 b5 (by rw [z]; rfl) t4 y5)
          · exact jj1 (last _ b4 b5 (by rw [z]; rfl) t4 y5)
        rw [List.length_cons, wl_X10_line_12, c5, row t', g2]
        refine ⟨i119 (n := 5) (by decide), fun z => absurd z (nI_ge (by omega) (by omega)), fun _ => ⟨fun z => ?_, fun z b4 y4 => ?_⟩⟩
        · have hd0 : D.length = 0 := (nI_leI (b := 0) (by omega) (by decide)).mp z |> Nat.le_zero.mp
          rw [if_pos hd0] at hlen
          exact rest _ v' (by omega) t' (lnAdd_0 hlen).symm
        · have hd0 : D.length ≠ 0 := fun e => z (by rw [e]; decide)
          rw [if_neg hd0] at hlen
          refine ⟨t'.vp (by omega), fun b6 y6 => ?_⟩
          have t6 := t'.put (by omega) (chI_n (n := 32) (by decide)) y4 y6
          exact rest _ b6 (by rw [List.length_append, List.length_singleton]; omega) t6 (lnAdd_n (by omega)).symm
    exact ⟨h.length + 1, loop h [] a2 rfl l0 (fun x hx => absurd hx List.not_mem_nil)⟩
