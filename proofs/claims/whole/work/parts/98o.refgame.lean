/-! the reference's changes: move, play -/
theorem r_makes {v : MU} {A : Ab} {T : Tr} (hO : RO v A T) {h : List (Nat × Nat)} {p a b : Nat} (hg : A.S.game = some (h, p)) (hl : h.length < 40) (hm : mvB A.S.cfg p a b = true) {Q : MU → Prop}
    (hq : ∀ v', RO v' (A.setS (mkS A.S.n A.S.traps A.S.geese A.S.ps (some (h ++ [(p, 8 * a + b)], sh p a b)) A.S.begun)) T → (∀ a, a ≠ 118 → v' a = v a) → Q v') : w_X10_makes (nI a) (nI b) v Q := by
  obtain ⟨h0, h1, h2, h3, h4, h5, h6⟩ := hO.2.1
  have hS := hO.1.1
  have hc := hO.c
  rw [hg] at h6
  obtain ⟨k1, k2, k3⟩ := hS.2.2.2.2 h p hg
  obtain ⟨g1, g2, g3⟩ := h6
  obtain ⟨w1, -, -, -, ha8, hb8⟩ := mv_wb hc k2 hm
  have hp2 := (posB_spec.mp k2).1
  have hq2 := (posB_spec.mp w1).1
  unfold w_X10_makes
  rw [c4, g1, nI_pred]
  refine ⟨i119 (n := 4) (by decide), fun x3 hx3 => ⟨i119 (n := 5) (by decide), ?_⟩⟩
  have i39 : (39 : Int32) + nI h.length = nI (39 + h.length) := by rw [show (39 : Int32) = nI 39 from rfl, nI_add]
  have i79 : (79 : Int32) + nI h.length = nI (79 + h.length) := by rw [show (79 : Int32) = nI 79 from rfl, nI_add]
  rw [c5, g2, i39, show (nI (39 + h.length)).toNatClampNeg = 39 + h.length from nI_clamp (by omega)]
  refine ⟨i119 (by omega), fun a5 e5 => ⟨i119 (n := 5) (by decide), ?_⟩⟩
  have x5 : a5 118 5 = nI h.length := by rw [e5, u2_o (Or.inr (by omega))]; exact g2
  rw [x5, i79, show (nI (79 + h.length)).toNatClampNeg = 79 + h.length from nI_clamp (by omega)]
  refine ⟨i119 (by omega), fun a8 e8 => ⟨i119 (n := 5) (by decide), i119 (n := 5) (by decide), fun a11 e11 => ?_⟩⟩
  have y5 : a8 118 5 = nI h.length := by rw [e8, u2_o (Or.inr (by omega))]; exact x5
  rw [y5, nI_1] at e11
  rw [show (8 : Int32) * nI a + nI b = nI (8 * a + b) by rw [show (8 : Int32) = nI 8 from rfl, pk_mul, nI_add]] at e8
  rw [hx3]
  refine r_behind hc k2 hm ⟨i119 (n := 4) (by decide), fun a15 e15 => ?_⟩
  rw [nI_1] at e15
  have fr : ∀ a, a ≠ 118 → a15 a = v a := fun a ha => by rw [e15, u2_ne ha, e11, u2_ne ha, e8, u2_ne ha, e5, u2_ne ha]
  have sl : ∀ j, j ≠ 4 → j ≠ 5 → j ≠ 39 + h.length → j ≠ 79 + h.length → a15 118 j = v 118 j := fun j a b d e => by rw [e15, u2_o (Or.inr a), e11, u2_o (Or.inr b), e8, u2_o (Or.inr e), e5, u2_o (Or.inr d)]
  refine hq a15 (RO_now hO (R118 fr).1 (R118 fr).2 ⟨hS.1, hS.2.1, hS.2.2.1, hS.2.2.2.1, fun h' p' e => ?_⟩ ⟨?_, ?_, ?_, ?_, fun i q hi => ?_, ?_, ?_, ?_, fun i q hi => ?_⟩) fr
  · cases e
    refine ⟨by rw [List.length_append, List.length_singleton]; omega, w1, fun z hz => ?_⟩
    rcases List.mem_append.mp hz with z1 | z1
    · exact k3 z z1
    · rw [List.mem_singleton.mp z1]; exact ⟨k2, by show 8 * a + b < 64; omega⟩
  · rw [sl 0 (by decide) (by decide) (by omega) (by omega)]; exact h0
  · rw [sl 1 (by decide) (by decide) (by omega) (by omega)]; exact h1
  · rw [sl 2 (by decide) (by decide) (by omega) (by omega)]; exact h2
  · rw [sl 3 (by decide) (by decide) (by omega) (by omega)]; exact h3
  · have hil := (List.getElem?_eq_some_iff.mp hi).1
    have hl16 := hS.2.2.2.1.1
    have hil' : i < A.S.ps.length := hil
    rw [sl _ (by omega) (by omega) (by omega) (by omega), sl _ (by omega) (by omega) (by omega) (by omega)]; exact h4 i q hi
  · rw [sl 6 (by decide) (by decide) (by omega) (by omega)]; exact h5
  · rw [e15, u2_at]
  · rw [e15, u2_o (Or.inr (by decide)), e11, u2_at, List.length_append]; rfl
  · rcases Nat.lt_or_ge i h.length with z | z
    · rw [List.getElem?_append_left z] at hi
      rw [sl _ (by omega) (by omega) (by omega) (by omega), sl _ (by omega) (by omega) (by omega) (by omega)]
      exact g3 i q hi
    · have hil := (List.getElem?_eq_some_iff.mp hi).1
      rw [List.length_append, List.length_singleton] at hil
      have hi2 : i = h.length := by omega
      subst hi2
      rw [List.getElem?_append_right (Nat.le_refl _), Nat.sub_self, List.getElem?_cons_zero] at hi
      cases hi
      refine ⟨?_, ?_⟩
      · rw [e15, u2_o (Or.inr (by omega)), e11, u2_o (Or.inr (by omega)), e8, u2_o (Or.inr (by omega)), e5, u2_at]; exact hx3
      · rw [e15, u2_o (Or.inr (by omega)), e11, u2_o (Or.inr (by omega)), e8, u2_at]
theorem mvs_len24 {c : Cfg} (hc : CfgOk c) {p : Nat} (hp : posB c p = true) : (mvs c p).length ≤ 24 := by
  rw [← fl_mvs hc hp]
  have hcn := hc.hn
  unfold fl
  split
  · have := cml_len (c := c) (p := p) (b := fx p) c.n 0; omega
  · rw [List.length_append]
    have h1 := cml_len (c := c) (p := p) (b := fi p) c.n 0
    split
    · rw [List.length_nil]; omega
    · have := cml_len (c := c) (p := p) (b := se p - 1) c.n 0; omega
/-- whether a move is among the moves -/
theorem al_any {c : Cfg} (hc : CfgOk c) {p : Nat} (hp : posB c p = true) {x y : Int32} : alI c p x y = (mvs c p).any (fun k => decide (nI (k / 8) = x) && decide (nI (k % 8) = y)) := by
  rw [Bool.eq_iff_iff, List.any_eq_true]
  unfold alI
  constructor
  · intro h
    rw [Bool.and_eq_true, Bool.and_eq_true] at h
    obtain ⟨hx, hxn⟩ := has_of hc h.1.1
    obtain ⟨hy, hyn⟩ := has_of hc h.1.2
    obtain ⟨m1, m2⟩ := mv_lt8 hc hp h.2
    have hn := hc.hn
    refine ⟨_, m1, ?_⟩
    rw [show (8 * x.toNatClampNeg + y.toNatClampNeg) / 8 = cl x by show _ = x.toNatClampNeg; have : y.toNatClampNeg < 8 := Nat.lt_of_lt_of_le hyn hn; omega, show (8 * x.toNatClampNeg + y.toNatClampNeg) % 8 = cl y by show _ = y.toNatClampNeg; have : y.toNatClampNeg < 8 := Nat.lt_of_lt_of_le hyn hn; omega, ← hx, ← hy, decide_eq_true rfl, decide_eq_true rfl]; rfl
  · rintro ⟨k, hk, h⟩
    rw [Bool.and_eq_true, decide_eq_true_eq, decide_eq_true_eq] at h
    obtain ⟨hk1, hk2⟩ := mvs_mem.mp hk
    obtain ⟨i1, i2, -⟩ := hc.hin _ _ (mvB_spec.mp hk2).1
    rw [← h.1, ← h.2, nI_clamp (by omega), nI_clamp (by omega), hasI_nI hc (by omega), hasI_nI hc (by omega), decide_eq_true i1, decide_eq_true i2, hk2]; rfl
theorem r_goes {v : MU} {A : Ab} {T : Tr} (hO : RO v A T) {x y : Int32} {Q : Int32 → MU → Prop} (hq : RRes A T Q (opMove A.S x y)) : w_X10_goes x y v Q := by
  have hS := hO.1.1
  have hc := hO.c
  have h6 := hO.2.1.2.2.2.2.2.2
  unfold opMove at hq
  unfold w_X10_goes
  rw [c4]
  cases hg : A.S.game with
  | none =>
    rw [hg] at hq h6
    exact ⟨i119 (n := 4) (by decide), fun z => absurd h6.1 z, fun _ => r_refuses hO (by decide) hq⟩
  | some z =>
    obtain ⟨h, p⟩ := z
    rw [hg] at hq h6
    obtain ⟨k1, k2, k3⟩ := hS.2.2.2.2 h p hg
    obtain ⟨g1, g2, g3⟩ := h6
    have hp2 := (posB_spec.mp k2).1
    have hm24 := mvs_len24 hc k2
    rw [g1]
    refine ⟨i119 (n := 4) (by decide), fun _ => r_nears hS hO.2.1 (fun v4 f4 n4 => ⟨i119 (n := 4) (by decide), ?_⟩), fun z => absurd z (nI_ne0 (by omega) (by omega))⟩
    rw [f4 118 (by decide), g1, nI_pred]
    refine r_finds hc (NF_RIs f4 hO.R) n4 k2 (fun v7 f7 l7 => ?_)
    have O7 := (FR_OF f7).ro ((NF_OF f4).ro hO)
    have N7 := f7.RNear n4
    have e118 : v7 118 = v 118 := by rw [(FR_OF f7).2 118 (by decide) (by decide), f4 118 (by decide)]
    rw [l7.1]
    refine ⟨fun z => ⟨(mvs A.S.cfg p).length + 1, ?_⟩, fun z => ⟨i119 (n := 5) (by decide), ?_⟩⟩
    · have hn0 : ¬ (mvs A.S.cfg p).length = 0 := fun e => z (by rw [e]; rfl)
      simp only [if_neg hn0] at hq
      have hal := al_any hc k2 (x := x) (y := y)
      have loop : ∀ (R D : List Nat), mvs A.S.cfg p = D ++ R → wl_X10_goes_58 Q (R.length + 1) x y (bI (D.any (fun k => decide (nI (k / 8) = x) && decide (nI (k % 8) = y)))) (nI D.length) v7 := by
        intro R
        induction R with
        | nil =>
          intro D hD
          rw [List.append_nil] at hD
          rw [← hD, ← hal]
          rw [List.length_nil, wl_X10_goes_58, l7.1]
          refine ⟨fun _ => bI_br2 (fun e => ?_) (fun e => ⟨i119 (n := 5) (by decide), ?_⟩), fun z => absurd (nI_le (Nat.le_refl _) (by omega)) z⟩
          · simp only [if_pos e] at hq
            exact r_refuses O7 (by decide) hq
          · simp only [if_neg (show ¬ alI A.S.cfg p x y = false by rw [e]; decide)] at hq
            rw [c5, e118, g2]
            have al := e
            unfold alI at al
            rw [Bool.and_eq_true, Bool.and_eq_true] at al
            obtain ⟨hx, hxn⟩ := has_of hc al.1.1
            obtain ⟨hy, hyn⟩ := has_of hc al.1.2
            refine ⟨fun z => ?_, fun z => ?_⟩
            · have hl : h.length < 40 := by
                rcases Nat.lt_or_ge h.length 40 with e3 | e3
                · exact e3
                · exact absurd (by rw [show h.length = 40 by omega]; rfl) z
              simp only [if_pos hl] at hq
              have M := r_makes O7 (a := cl x) (b := cl y) hg hl al.2 (Q := fun u_6 => vp_in (4 : Int32) 119 ∧ (w_X10_finds ((u_6 118 ((4 : Int32)).toNatClampNeg) - (1 : Int32)) u_6 (fun u_9 => Q (u_9 117 25) u_9))) (fun v6 o6 f6 => ⟨i119 (n := 4) (by decide), ?_⟩)
              · rw [← hx, ← hy] at M
                exact M
              · have hG := o6.2.1.2.2.2.2.2.2
                have hpos := (mv_wb hc k2 al.2).1
                rw [c4, show v6 118 4 = _ from hG.1, nI_pred]
                refine r_finds hc o6.R (fun b hb => by rw [f6 125 (by decide)]; exact N7 b hb) hpos (fun v9 f9 l9 => ?_)
                rw [l9.1]
                exact hq v9 ((FR_OF f9).ro o6)
            · have hl : ¬ h.length < 40 := fun e3 => by
                have := (nI_eq (b := 40) (by omega) (by decide)).mp z
                omega
              simp only [if_neg hl] at hq
              exact r_refuses O7 (by decide) hq
        | cons k R ih =>
          intro D hD
          obtain ⟨q1, q2, q3, q4⟩ := getD hD
          obtain ⟨r1, r2⟩ := l7.2 _ k q1
          have IH := ih (D ++ [k]) q4
          rw [List.any_append, List.any_cons, List.any_nil, Bool.or_false, List.length_append, List.length_singleton] at IH
          rw [List.length_cons, wl_X10_goes_58, l7.1]
          have go : ∀ b : Bool, b = (decide (nI (k / 8) = x) && decide (nI (k % 8) = y)) → wb_X10_goes_95 (fun x1' x2' x3' x4' u' => wl_X10_goes_58 Q (R.length + 1) x1' x2' x3' x4' u') Q x y (nI D.length) (bI b) (bI (D.any (fun k => decide (nI (k / 8) = x) && decide (nI (k % 8) = y)))) v7 := fun b hb x3 hx3 x4 hx4 => by
            rw [hx4, hx3, nI_1, bI_or, hb]
            exact IH
          unfold wb_X10_goes_94
          rw [show (nI D.length).toNatClampNeg = D.length from nI_clamp (by omega), r1, r2]
          refine ⟨fun z => absurd z (nI_ge (by omega) (by omega)), fun _ => ⟨vp_in_nI (by omega) (by decide), fun z => go false ?_, fun z => ⟨vp_in_nI (by omega) (by decide), fun z2 => go false ?_, fun z2 => go true ?_⟩⟩⟩
          · rw [decide_eq_false z]; rfl
          · rw [decide_eq_false z2, Bool.and_false]
          · rw [decide_eq_true z, decide_eq_true z2]; rfl
      exact loop (mvs A.S.cfg p) [] rfl
    · have hn0 : (mvs A.S.cfg p).length = 0 := (nI_eq (b := 0) (by omega) (by decide)).mp z
      simp only [if_pos hn0] at hq
      rw [c5, e118, g2]
      exact r_refuses O7 (by decide) hq
/-- there is a best move where there is a move -/
theorem best_none {c : Cfg} (hc : CfgOk c) {p : Nat} (hp : posB c p = true) : bestK c (slv c) p = none ↔ (mvs c p).length = 0 := by
  have hs := slv_sol hc
  constructor
  · intro h
    unfold bestK at h
    rw [List.find?_eq_none] at h
    rcases Nat.eq_zero_or_pos (mvs c p).length with z | z
    · exact z
    · exfalso
      have no : ∀ k, k ∈ mvs c p → slv c (tgt p k) ≠ slv c p - 1 := fun k hk e => h k hk (decide_eq_true e)
      have no2 : ∀ a b, mvB c p a b = true → slv c (sh p a b) ≠ slv c p - 1 := fun a b m => by
        obtain ⟨m1, m2⟩ := mv_lt8 hc hp m
        rw [← m2]; exact no _ m1
      rcases Nat.eq_zero_or_pos (slv c p) with h0 | h0
      · have all : ∀ k, k ∈ mvs c p → slv c (tgt p k) ≠ 0 := fun k hk => by have := no k hk; omega
        by_cases hx : ∃ k, k ∈ mvs c p ∧ slv c (tgt p k) % 2 = 1
        · exact (Sol_w hc hs hp hx).1 h0
        · have := Sol_l hc hs (slv_lt hc) hp (fun k hk => ⟨all k hk, by
            rcases Nat.mod_two_eq_zero_or_one (slv c (tgt p k)) with e | e
            · exact e
            · exact absurd ⟨k, hk, e⟩ hx⟩)
          omega
      · rcases Nat.mod_two_eq_zero_or_one (slv c p) with e | e
        · obtain ⟨⟨a, b, m, w⟩, -⟩ := Sol_won hs hp (by omega) e
          exact no2 a b m w
        · obtain ⟨al, ex⟩ := Sol_lost hs hp e
          rcases ex with w | ⟨a, b, m, w⟩
          · obtain ⟨k, hk⟩ : ∃ k, k ∈ mvs c p := ⟨(mvs c p)[0], List.getElem_mem z⟩
            have := al _ _ (mvs_mem.mp hk).2
            omega
          · exact no2 a b m w
  · intro h
    unfold bestK
    rw [List.length_eq_zero_iff.mp h]
    rfl
theorem r_plays {v : MU} {A : Ab} {T : Tr} (hO : RO v A T) {x : Int32} {Q : Int32 → MU → Prop} (hq : RRes A T Q (opPlay A.S x)) : w_X10_plays x v Q := by
  have hS := hO.1.1
  have hc := hO.c
  have h6 := hO.2.1.2.2.2.2.2.2
  unfold opPlay at hq
  unfold w_X10_plays w_X10_in
  refine ⟨fun z => ⟨fun z2 => absurd rfl z2, fun _ => ?_⟩, fun z => ⟨fun z2 => ⟨fun z3 => absurd rfl z3, fun _ => ?_⟩, fun z2 => ⟨fun _ => ?_, fun z3 => absurd z3 (by decide)⟩⟩⟩
  · rw [if_pos z] at hq
    exact r_refuses hO (by decide) hq
  · rw [if_neg z, if_pos z2] at hq
    exact r_refuses hO (by decide) hq
  · rw [if_neg z, if_neg z2] at hq
    have hx0 : ¬ x < 0 := fun z4 => z (fa_trans z4 (by decide))
    obtain ⟨M, hM, rfl⟩ := nI_of hx0
    rw [show cl (nI M) = M from nI_clamp hM] at hq
    have hM40 : ¬ 40 < M := fun z4 => z2 (nI_lt (a := 40) z4 hM)
    rw [c4]
    cases hg : A.S.game with
    | none =>
      rw [hg] at hq h6
      exact ⟨i119 (n := 4) (by decide), fun z => absurd h6.1 z, fun _ => r_refuses hO (by decide) hq⟩
    | some z =>
      obtain ⟨h, p⟩ := z
      rw [hg] at hq h6
      obtain ⟨k1, k2, k3⟩ := hS.2.2.2.2 h p hg
      obtain ⟨g1, g2, g3⟩ := h6
      have hp2 := (posB_spec.mp k2).1
      rw [g1]
      refine ⟨i119 (n := 4) (by decide), fun _ => r_nears hS hO.2.1 (fun v7 f7 n7 => r_looks hc (NF_RIs f7 hO.R) n7 (fun v9 f f9 hf hfb hs9 => ⟨i119 (n := 4) (by decide), ?_⟩)), fun z => absurd z (nI_ne0 (by omega) (by omega))⟩
      have O9 := (FL_OF f9).ro ((NF_OF f7).ro hO)
      have e118 : v9 118 = v 118 := by rw [(FL_OF f9).2 118 (by decide) (by decide), f7 118 (by decide)]
      have S9 := OIs_SIs hc (SIs_slv hc hf hs9)
      have N9 := f9.RNear n7
      rw [e118, g1, nI_pred]
      refine r_bestPlace hc (slv_sol hc) (slv_lt hc) k2 O9.R N9 S9 (fun v12 B f12 l12 b12 => ?_)
      have O12 := (FR_OF f12).ro O9
      have e12 : v12 118 = v 118 := by rw [(FR_OF f12).2 118 (by decide) (by decide), e118]
      have bN := best_none hc k2
      rw [c5, e12, g2]
      -- the loop
      have loop : ∀ (n d : Nat) (A' : Ab) (h' : List (Nat × Nat)) (p' : Nat) (B' : Option (Nat × Nat)) (v' : MU), d + n = M → A'.S.cfg = A.S.cfg → RO v' A' T → A'.S.game = some (h', p') → RNear v' A.S.cfg → SIs v' A.S.cfg (slv A.S.cfg) → MLs v' (mvs A.S.cfg p') → BPl A.S.cfg (slv A.S.cfg) p' B' →
          (∀ v'', RO v'' (A'.setS (mkS A'.S.n A'.S.traps A'.S.geese A'.S.ps (some (plG A.S.cfg n (h', p')).1) A'.S.begun)) T → Q (nI (d + (plG A.S.cfg n (h', p')).2)) v'') → wl_X10_plays_93 Q (n + 1) (nI M) (bInt B') (nI d) v' := by
        intro n
        induction n with
        | zero =>
          intro d A' h' p' B' v' hd hcf hO' hg' hN' hS' hL' hB' hq'
          have st : Q (nI d) v' := by
            have := hq' v' (by show RO v' (A'.setS (mkS A'.S.n A'.S.traps A'.S.geese A'.S.ps (some (h', p')) A'.S.begun)) T; rw [setS_self hg']; exact hO')
            exact this
          rw [wl_X10_plays_93]
          exact ⟨fun _ => st, fun _ => ⟨fun _ => st, fun z => absurd (nI_le (by omega) (by omega)) z⟩⟩
        | succ n ih =>
          intro d A' h' p' B' v' hd hcf hO' hg' hN' hS' hL' hB' hq'
          have hSt' := hO'.1.1
          obtain ⟨t1, t2, t3⟩ := hSt'.2.2.2.2 h' p' hg'
          rw [hcf] at t2 t3
          have h6' := hO'.2.1.2.2.2.2.2.2
          rw [hg'] at h6'
          have st : plG A.S.cfg (n + 1) (h', p') = ((h', p'), 0) → Q (nI d) v' := fun e => by
            have := hq' v' (by rw [e]; show RO v' (A'.setS (mkS A'.S.n A'.S.traps A'.S.geese A'.S.ps (some (h', p')) A'.S.begun)) T; rw [setS_self hg']; exact hO')
            rw [e] at this
            exact this
          rw [wl_X10_plays_93]
          cases B' with
          | none =>
            refine ⟨fun _ => st ?_, fun z => absurd m1_lt z⟩
            have hb : bestK A.S.cfg (slv A.S.cfg) p' = none := hB'
            rw [plG]
            by_cases h40 : 40 ≤ h'.length
            · rw [if_pos h40]
            · rw [if_neg h40, hb]
          | some w =>
            obtain ⟨b, y⟩ := w
            obtain ⟨k, hk1, hk2⟩ : ∃ k, (mvs A.S.cfg p')[b]? = some k ∧ bestK A.S.cfg (slv A.S.cfg) p' = some k := hB'
            have hbl := (List.getElem?_eq_some_iff.mp hk1).1
            have hm24 := mvs_len24 hc t2
            obtain ⟨r1, r2⟩ := hL'.2 b k hk1
            have hkm := mvs_mem.mp (List.mem_of_getElem? hk1)
            refine ⟨fun z => absurd z (nI_pos (show b < 2 ^ 31 by omega)), fun _ => ⟨fun z => absurd z (nI_ge (by omega) (by omega)), fun _ => ⟨i119 (n := 5) (by decide), ?_⟩⟩⟩
            rw [c5, h6'.2.1]
            refine ⟨fun z => st ?_, fun z => ⟨vp_in_nI (show b < 24 by omega) (by decide), vp_in_nI (show b < 24 by omega) (by decide), ?_⟩⟩
            · have h40 : 40 ≤ h'.length := (nI_leI (a := 40) (by decide) (by omega)).mp z
              rw [plG, if_pos h40]
            · have h40 : ¬ 40 ≤ h'.length := fun z3 => z (nI_le (a := 40) z3 (by omega))
              show w_X10_makes (v' 129 (nI b).toNatClampNeg) (v' 130 (nI b).toNatClampNeg) v' _
              rw [show (nI b).toNatClampNeg = b from nI_clamp (by omega), r1, r2]
              refine r_makes hO' hg' (by omega) (by rw [hcf]; exact hkm.2) (fun v8 o8 f8 x3 hx3 => ⟨i119 (n := 4) (by decide), ?_⟩)
              have hpos := (mv_wb hc t2 hkm.2).1
              have hG := o8.2.1.2.2.2.2.2.2
              have cf8 : (A'.setS (mkS A'.S.n A'.S.traps A'.S.geese A'.S.ps (some (h' ++ [(p', 8 * (k / 8) + k % 8)], sh p' (k / 8) (k % 8))) A'.S.begun)).S.cfg = A.S.cfg := hcf
              have R8 : RIs v8 A.S.cfg := by rw [← cf8]; exact o8.R
              rw [c4, show v8 118 4 = _ from hG.1, nI_pred]
              refine r_bestPlace hc (slv_sol hc) (slv_lt hc) hpos R8 (fun b hb => by rw [f8 125 (by decide)]; exact hN' b hb) (fun q hq => by rw [f8 126 (by decide), f8 127 (by decide)]; exact hS' q hq) (fun v11 B11 f11 l11 b11 => ?_)
              rw [hx3, nI_1]
              have he : plG A.S.cfg (n + 1) (h', p') = ((plG A.S.cfg n (h' ++ [(p', k)], sh p' (k / 8) (k % 8))).1, (plG A.S.cfg n (h' ++ [(p', k)], sh p' (k / 8) (k % 8))).2 + 1) := by
                rw [plG, if_neg h40, hk2]
              rw [he] at hq'
              have ek : 8 * (k / 8) + k % 8 = k := by omega
              rw [ek] at o8
              have N8 : RNear v8 A.S.cfg := fun b hb => by rw [f8 125 (by decide)]; exact hN' b hb
              have S8 : SIs v8 A.S.cfg (slv A.S.cfg) := fun q hq => by rw [f8 126 (by decide), f8 127 (by decide)]; exact hS' q hq
              refine ih (d + 1) (A'.setS (mkS A'.S.n A'.S.traps A'.S.geese A'.S.ps (some (h' ++ [(p', k)], sh p' (k / 8) (k % 8))) A'.S.begun)) (h' ++ [(p', k)]) (sh p' (k / 8) (k % 8)) B11 v11 (by omega) hcf ((FR_OF f11).ro o8) rfl (f11.RNear N8) (OIs.FR f11 S8) l11 b11 (fun v'' o'' => ?_)
              rw [show d + 1 + (plG A.S.cfg n (h' ++ [(p', k)], sh p' (k / 8) (k % 8))).2 = d + ((plG A.S.cfg n (h' ++ [(p', k)], sh p' (k / 8) (k % 8))).2 + 1) by omega]
              exact hq' v'' o''
      cases B with
      | none =>
        have hb : bestK A.S.cfg (slv A.S.cfg) p = none := b12
        have h0 := bN.mp hb
        simp only [if_pos h0] at hq
        exact ⟨fun z => absurd z (by decide), fun _ => ⟨i119 (n := 5) (by decide), r_refuses O12 (by decide) hq⟩⟩
      | some w =>
        obtain ⟨b, y⟩ := w
        obtain ⟨k, hk1, hk2⟩ : ∃ k, (mvs A.S.cfg p)[b]? = some k ∧ bestK A.S.cfg (slv A.S.cfg) p = some k := b12
        have hbl := (List.getElem?_eq_some_iff.mp hk1).1
        have hm24 := mvs_len24 hc k2
        have h0 : ¬ (mvs A.S.cfg p).length = 0 := by omega
        simp only [if_neg h0] at hq
        refine ⟨fun _ => ⟨i119 (n := 5) (by decide), fun z => ⟨M + 1, ?_⟩, fun z => ?_⟩, fun z => absurd (nI_pos' (show b < 2 ^ 31 by omega)) z⟩
        · have hl : h.length < 40 := by
            rcases Nat.lt_or_ge h.length 40 with e3 | e3
            · exact e3
            · exact absurd (by rw [show h.length = 40 by omega]; rfl) z
          simp only [if_pos hl] at hq
          refine loop M 0 A h p (some (b, y)) v12 (by omega) rfl O12 hg (f12.RNear N9) (OIs.FR f12 S9) l12 ⟨k, hk1, hk2⟩ (fun v'' o'' => ?_)
          rw [Nat.zero_add]
          exact hq v'' o''
        · have hl : ¬ h.length < 40 := fun e3 => by
            have := (nI_eq (b := 40) (by omega) (by decide)).mp z
            omega
          simp only [if_neg hl] at hq
          exact r_refuses O12 (by decide) hq
