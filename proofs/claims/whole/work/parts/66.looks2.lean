/-! ALL ROUNDS: looks leaves a solution -/
def cntR (c : Cfg) (n : Nat) : Nat := fb_ct (fun q => posB c q && decide (rd c n q ≠ 0)) 1296
theorem cntR_le (c : Cfg) (n : Nat) : cntR c n ≤ 1296 := fb_ct_le _ _
theorem ct_lt {p q : Nat → Bool} : ∀ {n : Nat}, (∀ k, k < n → p k = true → q k = true) → (∃ k, k < n ∧ p k = false ∧ q k = true) → fb_ct p n < fb_ct q n
  | 0, _, ⟨k, h, _⟩ => by omega
  | n + 1, h1, ⟨k, h2, h3, h4⟩ => by
    rw [fb_ct_succ, fb_ct_succ]
    by_cases e : k = n
    · subst e
      have := fb_ct_sub (p := p) (q := q) (n := k) (fun j hj => h1 j (by omega))
      rw [h3, h4]
      simp only [Bool.false_eq_true, if_false, if_true]
      omega
    · have := ct_lt (p := p) (q := q) (n := n) (fun j hj => h1 j (by omega)) ⟨k, by omega, h3, h4⟩
      have h5 := h1 n (by omega)
      cases e1 : p n
      · simp only [Bool.false_eq_true, if_false]
        omega
      · rw [h5 e1]
        omega
theorem cntR_more {c : Cfg} {n : Nat} (h : ∃ q, posB c q = true ∧ rd c (n + 1) q ≠ rd c n q) : cntR c n < cntR c (n + 1) := by
  obtain ⟨q, h1, h2⟩ := h
  refine ct_lt (fun k _ hk => ?_) ⟨q, (posB_spec.mp h1).1, ?_, ?_⟩
  · rw [Bool.and_eq_true, decide_eq_true_eq] at hk ⊢
    exact ⟨hk.1, by rw [rd_keep hk.2]; exact hk.2⟩
  · have : rd c n q = 0 := by
      rcases Nat.eq_zero_or_pos (rd c n q) with z | z
      · exact z
      · exact absurd (rd_keep (by omega)) h2
    rw [this, Bool.and_eq_false_iff]
    exact Or.inr (decide_eq_false (fun z => z rfl))
  · have : rd c (n + 1) q ≠ 0 := fun z => by
      rcases Nat.eq_zero_or_pos (rd c n q) with z2 | z2
      · exact h2 (by rw [z, z2])
      · rw [rd_keep (by omega)] at z; omega
    rw [Bool.and_eq_true, decide_eq_true_eq]
    exact ⟨h1, this⟩
theorem cntR_same {c : Cfg} {n : Nat} : cntR c n ≤ cntR c (n + 1) := fb_ct_sub (fun k _ hk => by
  rw [Bool.and_eq_true, decide_eq_true_eq] at hk ⊢
  exact ⟨hk.1, by rw [rd_keep hk.2]; exact hk.2⟩)
/-- the memory shows the values f at the positions -/
def SIs (v : MU) (c : Cfg) (f : Nat → Nat) : Prop := OIs v (fun q => if posB c q = true then f q else 0)
def mu (c : Cfg) (n : Nat) (b : Bool) : Nat := 2 * (1296 - cntR c n) + (2 - n) + (if b = true then 1 else 0)
theorem mu_a {A B n K e : Nat} (l1 : A ≤ 1296) (l2 : B ≤ 1296) (l3 : A ≤ B) (hm : 2 * (1296 - A) + (2 - n) + e < K + 1) (h : e = 1 ∨ n < 2) : 2 * (1296 - B) + (2 - (n + 1)) + 0 < K := by omega
theorem mu_b {A B n K e : Nat} (l2 : B ≤ 1296) (l3 : A < B) (hm : 2 * (1296 - A) + (2 - n) + e < K + 1) : 2 * (1296 - B) + (2 - (n + 1)) + 1 < K := by omega
theorem r_rounds {c : Cfg} (hc : CfgOk c) {v0 : MU} (hR : RIs v0 c) (hN : RNear v0 c) {Q : MU → Prop} (hq : ∀ v' f, FL v0 v' → Sol c f → (∀ q, f q < 2 ^ 20) → SIs v' c f → Q v') :
    ∀ (K n : Nat) (b : Bool) (v : MU), mu c n b < K → n + K ≤ 3000 → FL v0 v → OIs v (wm c n 0) → (b = false → n = 0 ∨ ∃ j, n = j + 1 ∧ ∀ q, posB c q = true → rd c (j + 1) q = rd c j q) → wl_X10_looks_33 Q K (bI b) (nI n) v := by
  intro K
  induction K with
  | zero => intro n b v h; omega
  | succ K ih =>
    intro n b v hm hnK hf hO hb
    have go : (b = true ∨ n < 2) → wb_X10_looks_42 (fun x1' x2' u' => wl_X10_looks_33 Q K x1' x2' u') Q (nI n) v := fun hgo => by
      unfold wb_X10_looks_42
      refine ⟨1297, ?_⟩
      refine r_pass hc hR hN (n := n) (by omega) (fun v' b' f' O' hb' => ?_) 1296 0 v false (by omega) hf hO ⟨fun h => absurd h Bool.false_ne_true, fun ⟨q, h, _⟩ => absurd h (Nat.not_lt_zero q)⟩
      refine ih (n + 1) b' v' ?_ (by omega) f' O' (fun e => Or.inr ⟨n, rfl, fun q hq => ?_⟩)
      · have l1 := cntR_le c n
        have l2 := cntR_le c (n + 1)
        have l3 := cntR_same (c := c) (n := n)
        unfold mu at hm ⊢
        cases e : b'
        · rw [if_neg Bool.false_ne_true]
          rcases hgo with z | z
          · rw [if_pos z] at hm; exact mu_a l1 l2 l3 hm (Or.inl rfl)
          · exact mu_a l1 l2 l3 hm (Or.inr z)
        · rw [if_pos rfl]
          exact mu_b l2 (cntR_more (hb'.mp e)) hm
      · rcases Nat.decEq (rd c (n + 1) q) (rd c n q) with z | z
        · exact absurd (hb'.mpr ⟨q, hq, z⟩) (by rw [e]; exact Bool.false_ne_true)
        · exact z
    rw [wl_X10_looks_33]
    refine bI_br2 (fun e => ⟨fun q => ?_, fun q => go (Or.inr ?_)⟩) (fun e => go (Or.inl e))
    · have hn2 : ¬ n < 2 := fun z => nI_ge (b := 2) z (by decide) q
      rcases hb e with z | ⟨j, rfl, hj⟩
      · omega
      · refine hq v (rd c j) hf (rd_sol hc hj) (fun q => by have := rd_le (c := c) (p := q) j; omega) (hO.cong (fun q _ => ?_))
        unfold wm
        rw [if_neg (Nat.not_lt_zero q)]
        by_cases hp : posB c q = true
        · rw [if_pos hp, if_pos hp, hj q hp]
        · rw [if_neg hp, if_neg hp]
    · rcases Nat.lt_or_ge n 2 with z | z
      · exact z
      · exact absurd (nI_le (a := 2) z (by omega)) q
theorem r_clear {c : Cfg} {v0 : MU} {Q : MU → Prop} (hq : ∀ v', FL v0 v' → OIs v' (wm c 0 0) → ∃ nn, wl_X10_looks_33 Q nn 1 0 v') : ∀ (r m : Nat) (v : MU), m + r = 1296 → FL v0 v → (∀ q, q < m → v 126 q = 0 ∧ v 127 q = -1) → wl_X10_looks_2 Q (r + 1) (nI m) v := by
  intro r
  induction r with
  | zero =>
    intro m v hm hf hO
    rw [wl_X10_looks_2]
    refine ⟨fun _ => hq v hf (fun q h => ?_), fun q => absurd (nI_le (a := 1296) (by omega) (by omega)) q⟩
    have e : wm c 0 0 q = 0 := by unfold wm; rw [if_neg (Nat.not_lt_zero q), rd]; split <;> rfl
    rw [e, nv_0]
    exact hO q (by omega)
  | succ r ih =>
    intro m v hm hf hO
    have hm2 : m < 1296 := by omega
    have hcl : (nI m).toNatClampNeg = m := nI_clamp (by omega)
    rw [wl_X10_looks_2]
    refine ⟨fun q => absurd q (nI_ge (b := 1296) hm2 (by decide)), fun _ => ⟨vp_in_nI hm2 (by decide), fun a ha => ⟨vp_in_nI hm2 (by decide), fun d hd x hx => ?_⟩⟩⟩
    rw [hcl] at ha hd
    rw [hx, nI_1]
    refine ih (m + 1) d (by omega) (hf.tr (fun k j _ _ _ q4 q5 => by rw [hd, u2_o (Or.inl q5), ha, u2_o (Or.inl q4)])) (fun q hq => ?_)
    by_cases e : q = m
    · rw [e]
      exact ⟨by rw [hd, u2_o (Or.inl (by decide)), ha, u2_at], by rw [hd, u2_at]⟩
    · rw [hd, u2_o (Or.inl (by decide)), u2_o (Or.inr e), ha, u2_o (Or.inr e), u2_o (Or.inl (by decide))]
      exact hO q (by omega)
/-- what looks leaves -/
theorem r_looks {c : Cfg} (hc : CfgOk c) {v0 : MU} (hR : RIs v0 c) (hN : RNear v0 c) {Q : MU → Prop} (hq : ∀ v' f, FL v0 v' → Sol c f → (∀ q, f q < 2 ^ 20) → SIs v' c f → Q v') : w_X10_looks v0 Q := by
  unfold w_X10_looks
  refine ⟨1297, r_clear (c := c) (fun v' f' O' => ⟨2600, ?_⟩) 1296 0 v0 (by omega) (FL.rf v0) (fun q h => by omega)⟩
  refine r_rounds hc hR hN hq 2600 0 true v' ?_ (by omega) f' O' (fun e => by cases e)
  have := cntR_le c 0
  unfold mu
  rw [if_pos rfl]
  omega
