/-! the reference: means, shares, accounts -/
def MDPost (k : AnsD) (Q : UInt64 → MU → Prop) : Prop := ∀ v' r, RI v' k.2.2 → v' 117 17 = nI k.1 → (k.1 = 0 → r = k.2.1) → Q r v'
def MFPost (k : AnsD) (Q : UInt32 → MU → Prop) : Prop := ∀ v' r, RI v' k.2.2 → v' 117 17 = nI k.1 → (k.1 = 0 → FP.f2d r = k.2.1) → Q r v'
theorem pre_k {c : Cfg} {P : Nat → Bool} {m : Nat} : ∀ n, (∀ q, m ≤ q → q < m + n → P q = false) → (pre c (m + n)).countP P = (pre c m).countP P
  | 0, _ => rfl
  | n + 1, h => by rw [show m + (n + 1) = (m + n) + 1 from rfl, pre_c0 (fun _ => h _ (by omega) (by omega)), pre_k n (fun q h1 h2 => h q h1 (by omega))]
theorem r_positions {v : MU} {A : Ab} (hK : KI v A) {Q : Int32 → Prop} (h : Q (nI (lp A.S.cfg).length)) : w_X10_positions v Q := by
  have hc := hK.c
  unfold w_X10_positions
  have loop : ∀ n m, m + n = 1296 → wl_X10_positions_4 v Q (n + 1) (nI (pre A.S.cfg m).length) (nI m) := by
    intro n
    induction n with
    | zero =>
      intro m hm
      rw [wl_X10_positions_4]
      refine ⟨fun _ => ?_, fun z => absurd (le1296 hm) z⟩
      rw [show m = 1296 by omega, pre_all hc]
      exact h
    | succ n ih =>
      intro m hm
      have IH := ih (m + 1) (by omega)
      rw [wl_X10_positions_4]
      refine ⟨fun z => absurd z (ge1296 hm), fun _ => r_isPosition hc hK.R ?_⟩
      rw [posI_nI (by omega)]
      unfold wb_X10_positions_22
      cases hp : posB A.S.cfg m with
      | false =>
        refine jj0 (fun x2 hx2 => ?_)
        rw [hx2, nI_1]
        rw [pre_l0 hp] at IH
        exact IH
      | true =>
        refine jj1 (fun x1 hx1 x2 hx2 => ?_)
        rw [hx2, hx1, nI_1, nI_1]
        rw [pre_l1 hp] at IH
        exact IH
  exact ⟨1297, loop 1296 0 (by omega)⟩
theorem M_meanMoves {v : MU} {A : Ab} {Q : UInt64 → MU → Prop} (hI : RI v A) (hq : MDPost (a_mean A) Q) : w_X10_meanMoves v Q := by
  unfold a_mean at hq
  unfold w_X10_meanMoves
  refine r_knows hI (fun v2 K2 => ⟨1297, ?_⟩)
  have hc := K2.c
  have hl := lp_len hc
  have hb30 := slv_lt30 hc
  have loop : ∀ n m, m + n = 1296 → wl_X10_meanMoves_10 Q (n + 1) (nI ((pre A.S.cfg m).countP (pTold A.S.cfg))) (nI (sumM A.S.cfg (pre A.S.cfg m))) (nI m) v2 := by
    intro n
    induction n with
    | zero =>
      intro m hm
      rw [wl_X10_meanMoves_10]
      refine ⟨fun _ => ?_, fun z => absurd (le1296 hm) z⟩
      rw [show m = 1296 by omega, pre_all hc]
      have hcl : (lp A.S.cfg).countP (pTold A.S.cfg) ≤ (lp A.S.cfg).length := List.countP_le_length
      refine ⟨fun z => ?_, fun z => ?_⟩
      · have h0 : ¬ (lp A.S.cfg).countP (pTold A.S.cfg) = 0 := fun e => z (by rw [e]; rfl)
        rw [if_neg h0] at hq
        exact ⟨ddiv_n (by omega) (by omega), hq v2 _ K2.1 K2.2.1 (fun _ => rfl)⟩
      · have h0 : (lp A.S.cfg).countP (pTold A.S.cfg) = 0 := (nI_eq (b := 0) (by omega) (by decide)).mp z
        rw [if_pos h0] at hq
        intro a1 e1
        obtain ⟨i1, h17⟩ := RI_0 K2.1 e1
        exact hq a1 _ i1 h17 (fun z => by cases z)
    | succ n ih =>
      intro m hm
      have IH := ih (m + 1) (by omega)
      obtain ⟨k1, k2⟩ := K2.2.2.2 m (by omega)
      have hmc : (nI m).toNatClampNeg = m := nI_clamp (by omega)
      rw [wl_X10_meanMoves_10, hmc, k1, k2]
      unfold wb_X10_meanMoves_41
      refine ⟨fun z => absurd z (ge1296 hm), fun _ => ⟨vpos (by omega), fun z x1 hx1 => ⟨vpos (by omega), fun x2 hx2 x3 hx3 => ?_⟩, fun z x3 hx3 => ?_⟩⟩
      · have h0 : slv A.S.cfg m ≠ 0 := fun e => z ((outI_0 _).mpr e)
        obtain ⟨j, hj⟩ : ∃ j, slv A.S.cfg m = j + 1 := ⟨slv A.S.cfg m - 1, by omega⟩
        rw [pre_c1 (slv_pos hc h0) (show pTold A.S.cfg m = true from decide_eq_true h0), pre_s, if_pos (slv_pos hc h0), sumM_app, hj, Nat.add_sub_cancel] at IH
        rw [hx3, hx2, hx1, nI_1, nI_1, hj, nv_s, nI_add]
        exact IH
      · have h0 : slv A.S.cfg m = 0 := (outI_0 _).mp z
        rw [hx3, nI_1]
        have e2 : sumM A.S.cfg (pre A.S.cfg (m + 1)) = sumM A.S.cfg (pre A.S.cfg m) := by
          rw [pre_s]
          split
          · rw [sumM_app, h0]; rfl
          · rfl
        rw [pre_c0 (fun _ => show pTold A.S.cfg m = false from decide_eq_false (fun e => e h0)), e2] at IH
        exact IH
  exact loop 1296 0 (by omega)
theorem M_drawn {v : MU} {A : Ab} {Q : UInt32 → MU → Prop} (hI : RI v A) (hq : MFPost (a_drawn A) Q) : w_X10_drawn v Q := by
  unfold a_drawn at hq
  unfold w_X10_drawn
  refine r_knows hI (fun v2 K2 => ⟨1297, ?_⟩)
  have hc := K2.c
  have hl := lp_len hc
  have hb30 := slv_lt30 hc
  have loop : ∀ n m, m + n = 1296 → wl_X10_drawn_8 Q (n + 1) (nI ((pre A.S.cfg m).countP (pIn A.S.cfg (-1)))) (nI m) v2 := by
    intro n
    induction n with
    | zero =>
      intro m hm
      rw [wl_X10_drawn_8]
      refine ⟨fun _ => r_positions K2 ⟨fun z => r_positions K2 ?_, fun z => ?_⟩, fun z => absurd (le1296 hm) z⟩
      · rw [show m = 1296 by omega, pre_all hc]
        have h0 : ¬ (lp A.S.cfg).length = 0 := fun e => z (by rw [e]; rfl)
        rw [if_neg h0] at hq
        obtain ⟨n1, n2⟩ := fdiv_n (x := nI ((lp A.S.cfg).countP (pIn A.S.cfg (-1)))) (n := (lp A.S.cfg).length) (by omega) (by omega)
        exact ⟨n1, hq v2 _ K2.1 K2.2.1 (fun _ => rfl)⟩
      · have h0 : (lp A.S.cfg).length = 0 := (nI_eq (b := 0) (by omega) (by decide)).mp z
        rw [if_pos h0] at hq
        intro a1 e1
        obtain ⟨i1, h17⟩ := RI_0 K2.1 e1
        exact hq a1 _ i1 h17 (fun z => by cases z)
    | succ n ih =>
      intro m hm
      have IH := ih (m + 1) (by omega)
      obtain ⟨k1, k2⟩ := K2.2.2.2 m (by omega)
      have hmc : (nI m).toNatClampNeg = m := nI_clamp (by omega)
      rw [wl_X10_drawn_8, hmc, k1]
      have no : (posB A.S.cfg m = true → pIn A.S.cfg (-1) m = false) → wb_X10_drawn_35 (fun x1' x2' u' => wl_X10_drawn_8 Q (n + 1) x1' x2' u') Q (nI ((pre A.S.cfg m).countP (pIn A.S.cfg (-1)))) (nI m) v2 := fun e x5 hx5 => by
        rw [hx5, nI_1]
        rw [pre_c0 e] at IH
        exact IH
      refine ⟨fun z => absurd z (ge1296 hm), fun _ => r_isPosition hc K2.R ?_⟩
      rw [posI_nI (by omega)]
      cases hp : posB A.S.cfg m with
      | false => exact jj0 (no (fun z => absurd (hp.symm.trans z) (by decide)))
      | true =>
        refine jj1 ⟨vpos (by omega), fun z => no (fun _ => ?_), fun z x1 hx1 x2 hx2 => ?_⟩
        · refine decide_eq_false (fun e => z ((outI_0 _).mpr ?_))
          rw [← nv_0] at e
          exact (nv_inj (Nat.lt_trans (hb30 m) (by decide)) (by decide)).mp e
        · rw [hx2, hx1, nI_1, nI_1]
          rw [pre_c1 hp (show pIn A.S.cfg (-1) m = true from decide_eq_true (by rw [(outI_0 _).mp z]; exact nv_0))] at IH
          exact IH
  exact loop 1296 0 (by omega)
theorem ten : ∀ m, m < 11 → nI m = 0 ∨ nI m = 1 ∨ nI m = 2 ∨ nI m = 3 ∨ nI m = 4 ∨ nI m = 5 ∨ nI m = 6 ∨ nI m = 7 ∨ nI m = 8 ∨ nI m = 9 ∨ nI m = 10 := by decide +kernel
theorem M_account {v : MU} {A : Ab} {x : Int32} {Q : Int32 → MU → Prop} (hI : RI v A) (hq : MPost (a_account A x) Q) : w_X10_account x v Q := by
  unfold a_account at hq
  unfold w_X10_account
  refine r_knows hI (fun v2 K2 => ?_)
  have hc := K2.c
  have hl := lp_len hc
  have hb30 := slv_lt30 hc
  obtain ⟨d0, d1, d2, d3, d4, d6, d5⟩ := K2.1.2.1
  obtain ⟨m1, m2, m3, m4, m5, m6, m7, m8, m9⟩ := K2.1.2.2.1
  rw [c0, c1, c2, c3, c4, c5, c6, d0, d1, d2, d3, d6, m3, m5]
  have ret : ∀ k w : Int32, x = k → ¬ k < 0 → ¬ 10 < k → accV A k = w → Q w v2 := fun k w e h1 h2 h3 => by
    subst e
    rw [if_neg h1, if_neg h2] at hq
    exact K2.ret hq (by rw [h3])
  refine ⟨fun e => ⟨i119 (n := 0) (by decide), ret 0 _ e (by decide) (by decide) rfl⟩, fun e0 => ⟨fun e => ⟨i119 (n := 3) (by decide), ret 1 _ e (by decide) (by decide) rfl⟩, fun e1 => ⟨fun e => ⟨i119 (n := 1) (by decide), s_bitCountI K2.1.1.1.2.2.1 (ret 2 _ e (by decide) (by decide) rfl)⟩, fun e2 => ⟨fun e => ⟨i119 (n := 2) (by decide), ret 3 _ e (by decide) (by decide) rfl⟩, fun e3 => ⟨fun e => r_positions K2 (ret 4 _ e (by decide) (by decide) rfl), fun e4 => ⟨fun e => ⟨1297, ?_⟩, fun e5 => ⟨fun e => ⟨1297, ?_⟩, fun e6 => ⟨fun e => ⟨i119 (n := 4) (by decide), ?_⟩, fun e7 => ⟨fun e => ⟨i119 (n := 6) (by decide), ret 8 _ e (by decide) (by decide) rfl⟩, fun e8 => ⟨fun e => ret 9 _ e (by decide) (by decide) rfl, fun e9 => ⟨fun e => ret 10 _ e (by decide) (by decide) rfl, fun e10 => ?_⟩⟩⟩⟩⟩⟩⟩⟩⟩⟩⟩
  · have loop : ∀ n m, m + n = 1296 → wl_X10_account_102 Q (n + 1) (nI ((pre A.S.cfg m).countP (pIn A.S.cfg 0))) (nI m) v2 := by
      intro n
      induction n with
      | zero =>
        intro m hm
        rw [wl_X10_account_102]
        refine ⟨fun _ => ?_, fun z => absurd (le1296 hm) z⟩
        rw [show m = 1296 by omega, pre_all hc]
        exact ret 5 _ e (by decide) (by decide) rfl
      | succ n ih =>
        intro m hm
        have IH := ih (m + 1) (by omega)
        obtain ⟨k1, k2⟩ := K2.2.2.2 m (by omega)
        have hmc : (nI m).toNatClampNeg = m := nI_clamp (by omega)
        rw [wl_X10_account_102, hmc, k1, k2]
        have no : pIn A.S.cfg 0 m = false → wb_X10_account_131 (fun x2' x3' u' => wl_X10_account_102 Q (n + 1) x2' x3' u') Q (nI ((pre A.S.cfg m).countP (pIn A.S.cfg 0))) (nI m) v2 := fun e x5 hx5 => by
          rw [hx5, nI_1]
          rw [pre_c0 (fun _ => e)] at IH
          exact IH
        refine ⟨fun z => absurd z (ge1296 hm), fun _ => ⟨vpos (by omega), fun z => no ?_, fun z => ⟨vpos (by omega), fun z2 => no ?_, fun z2 x2 hx2 x3 hx3 => ?_⟩⟩⟩
        · refine decide_eq_false (fun e => z ((outI_2 _).mpr ?_))
          have := (nv_inj (a := slv A.S.cfg m) (b := 1) (Nat.lt_trans (hb30 m) (by decide)) (by decide)).mp (by rw [e]; rfl)
          omega
        · exact decide_eq_false z2
        · rw [hx3, hx2, nI_1, nI_1]
          rw [pre_c1 (slv_pos hc (fun e => by rw [e] at z; exact absurd z (by decide +kernel))) (show pIn A.S.cfg 0 m = true from decide_eq_true z2)] at IH
          exact IH
    exact loop 1296 0 (by omega)
  · have loop : ∀ n m, m + n = 1296 → wl_X10_account_143 Q (n + 1) (nv (maxM A.S.cfg (pre A.S.cfg m))) (nI m) v2 := by
      intro n
      induction n with
      | zero =>
        intro m hm
        rw [wl_X10_account_143]
        refine ⟨fun _ => ?_, fun z => absurd (le1296 hm) z⟩
        rw [show m = 1296 by omega, pre_all hc]
        exact ret 6 _ e (by decide) (by decide) rfl
      | succ n ih =>
        intro m hm
        have IH := ih (m + 1) (by omega)
        obtain ⟨k1, k2⟩ := K2.2.2.2 m (by omega)
        have hmc : (nI m).toNatClampNeg = m := nI_clamp (by omega)
        rw [wl_X10_account_143, hmc, k2]
        have em : maxM A.S.cfg (pre A.S.cfg (m + 1)) = max (maxM A.S.cfg (pre A.S.cfg m)) (slv A.S.cfg m) := by
          cases hp : posB A.S.cfg m with
          | true => unfold maxM; rw [pre_f1 hp]
          | false => rw [slv_out hc hp, Nat.max_eq_left (Nat.zero_le _), pre_s, if_neg (by rw [hp]; decide)]
        refine ⟨fun z => absurd z (ge1296 hm), fun _ => ⟨vpos (by omega), fun x2 hx2 x3 hx3 => ?_⟩⟩
        rw [hx3, hx2, nI_1, i_maxv (Nat.lt_trans (maxM_lt hc _) (by decide)) (hb30 m), ← em]
        exact IH
    have := loop 1296 0 (by omega)
    rw [show maxM A.S.cfg (pre A.S.cfg 0) = 0 from rfl, nv_0] at this
    exact this
  · have r7 : ∀ w : Int32, (match A.S.game with | none => -1 | some (h, _) => nI h.length) = w → Q w v2 := fun w h => ret 7 w e (by decide) (by decide) h
    have d5' := d5
    unfold RG at d5'
    cases hg : A.S.game with
    | none =>
      rw [hg] at d5' r7
      exact ⟨fun z => absurd d5'.1 z, fun _ => r7 _ rfl⟩
    | some z =>
      obtain ⟨h, p⟩ := z
      rw [hg] at d5' r7
      obtain ⟨q1, q2, q3⟩ := K2.1.1.1.2.2.2.2 h p hg
      have := (posB_spec.mp q2).1
      rw [d5'.1, d5'.2.1]
      exact ⟨fun _ => ⟨i119 (n := 5) (by decide), r7 _ rfl⟩, fun z => absurd z (nI_ne0 (by omega) (by omega))⟩
  · have big : x < 0 ∨ 10 < x := by
      by_cases h : x < 0
      · exact Or.inl h
      · obtain ⟨m, hm, rfl⟩ := nI_of h
        rcases Nat.lt_or_ge m 11 with q | q
        · exfalso
          rcases ten m q with z | z | z | z | z | z | z | z | z | z | z
          · exact e0 z
          · exact e1 z
          · exact e2 z
          · exact e3 z
          · exact e4 z
          · exact e5 z
          · exact e6 z
          · exact e7 z
          · exact e8 z
          · exact e9 z
          · exact e10 z
        · exact Or.inr (nI_lt (a := 10) (by omega) hm)
    rcases big with h | h
    · rw [if_pos h] at hq
      exact K2.rs (j := 0) hq rfl
    · by_cases h2 : x < 0
      · rw [if_pos h2] at hq
        exact K2.rs (j := 0) hq rfl
      · rw [if_neg h2, if_pos h] at hq
        exact K2.rs (j := 0) hq rfl
