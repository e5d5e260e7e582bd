/-! THE REFERENCE'S SMALL QUERIES -/
/-- the reference's row of now shows the configuration c (near: its own row, below) -/
def RIs (v : MU) (c : Cfg) : Prop := v 118 0 = nI c.n ∧ v 118 1 = nI c.traps ∧ v 118 2 = nI c.geese
def RNear (v : MU) (c : Cfg) : Prop := ∀ b, b < 8 → v 125 b = nI (c.near b)
theorem r_isBurrow {v : MU} {c : Cfg} (hc : CfgOk c) (hR : RIs v c) {x : Int32} {Q : Int32 → Prop} (h : Q (bI (hasI c x))) : w_X10_isBurrow v x Q := by
  have hn := hc.hn
  unfold w_X10_isBurrow
  refine ⟨vp_in_nI (n := 0) (by decide) (by decide), ?_⟩
  rw [show ((0 : Int32)).toNatClampNeg = 0 from rfl, hR.1]
  unfold w_X10_in
  unfold hasI at h
  refine ⟨fun h1 => ?_, fun h1 => ⟨fun h2 => ?_, fun h2 => ?_⟩⟩
  · rw [decide_eq_true h1] at h; exact ⟨bI_nr false, h⟩
  · obtain ⟨a, ha, rfl⟩ := nI_of h1
    have e : c.n ≤ a := by
      rcases Nat.eq_zero_or_pos c.n with z | z
      · omega
      · rw [nI_pr z] at h2
        have := (nI_ltI (by omega) ha).mp h2
        omega
    rw [decide_eq_true (nI_le e ha), Bool.not_true, Bool.and_false] at h
    exact ⟨bI_nr false, h⟩
  · obtain ⟨a, ha, rfl⟩ := nI_of h1
    have e : a < c.n := by
      rcases Nat.lt_or_ge a c.n with z | z
      · exact z
      · exfalso
        rcases Nat.eq_zero_or_pos c.n with z0 | z0
        · rw [z0] at h2
          exact h2 (by rw [show nI 0 - 1 = (-1 : Int32) by decide +kernel]; exact fa_trans m1_lt (nI_pos' ha))
        · rw [nI_pr z0] at h2
          exact h2 (nI_lt (by omega) ha)
    rw [decide_eq_false h1, decide_eq_false (nI_ge e (by omega)), Bool.not_false, Bool.and_true] at h
    exact ⟨bI_nr true, h⟩
theorem r_is {v : MU} {c : Cfg} (hc : CfgOk c) (hR : RIs v c) {x y z : Int32} {Q : Int32 → Prop} (h : Q (bI (fitsI c x y z))) : w_X10_is v x y z Q := by
  unfold w_X10_is
  have hgg : (v 118 ((2 : Int32)).toNatClampNeg = 1) ↔ c.geese = 1 := by
    rw [show ((2 : Int32)).toNatClampNeg = 2 from rfl, hR.2.2]
    rcases hc.hg with e | e <;> rw [e] <;> decide +kernel
  unfold fitsI at h
  refine r_isBurrow hc hR (bI_br (fun e1 => ?_) (fun e1 => ?_))
  · rw [e1] at h; exact h
  · refine r_isBurrow hc hR (bI_br (fun e2 => ?_) (fun e2 => ?_))
    · rw [e1, e2] at h; exact h
    · rw [e1, e2] at h
      refine ⟨fun e3 => ⟨vp_in_nI (n := 2) (by decide) (by decide), fun e4 => ?_, fun e4 => ?_⟩, fun e3 => ?_⟩
      · rw [decide_eq_false e3, if_neg (fun q => e4 (hgg.mpr q))] at h
        refine r_isBurrow hc hR (bI_br (fun e5 => ?_) (fun e5 => ⟨fun e6 => ?_, fun e6 => ⟨fun e7 => ?_, fun e7 => ?_⟩⟩))
        · rw [e5] at h; exact h
        · rw [e5, decide_eq_true e6] at h; exact h
        · rw [e5, decide_eq_false e6, decide_eq_true e7] at h; exact h
        · rw [e5, decide_eq_false e6, decide_eq_false e7] at h; exact h
      · rw [decide_eq_false e3, if_pos (hgg.mp e4)] at h
        refine ⟨fun e5 => ?_, fun e5 => ?_⟩
        · rw [decide_eq_false e5] at h; exact h
        · rw [decide_eq_true e5] at h; exact h
      · rw [decide_eq_true e3] at h; exact h
theorem r_fx {p : Nat} (hp : p < 1296) {Q : Int32 → Prop} (h : Q (nI (fx p))) : w_X10_fox (nI p) Q := by unfold w_X10_fox; rw [i_fx hp]; exact h
theorem r_fi {p : Nat} (hp : p < 1296) {Q : Int32 → Prop} (h : Q (nI (fi p))) : w_X10_first (nI p) Q := by unfold w_X10_first; rw [i_fi hp]; exact h
theorem r_se {p : Nat} (hp : p < 1296) {Q : Int32 → Prop} (h : Q (nI (se p) - 1)) : w_X10_second (nI p) Q := by unfold w_X10_second; rw [i_se hp]; exact h
theorem r_tu {p : Nat} (hp : p < 1296) {Q : Int32 → Prop} (h : Q (nI (tu p))) : w_X10_isGeese (nI p) Q := by
  unfold w_X10_isGeese
  rw [i_tu hp]
  rcases (show tu p = 0 ∨ tu p = 1 by have := tu_lt p; omega) with ht | ht <;> rw [ht] at h ⊢
  · exact ⟨fun _ => h, fun q => absurd q (by decide +kernel)⟩
  · exact ⟨fun q => absurd rfl q, fun _ => h⟩
theorem r_isPosition {v : MU} {c : Cfg} (hc : CfgOk c) (hR : RIs v c) {x : Int32} {Q : Int32 → Prop} (h : Q (bI (posI c x))) : w_X10_isPosition v x Q := by
  unfold w_X10_isPosition w_X10_in
  refine ⟨fun h1 => ⟨fun _ => ?_, fun q => absurd rfl q⟩, fun h1 => ⟨fun h2 => ⟨fun _ => ?_, fun q => absurd rfl q⟩, fun h2 => ⟨fun q => absurd q (by decide), fun _ => ?_⟩⟩⟩
  · unfold posI at h; rw [decide_eq_true h1] at h; exact h
  · obtain ⟨p, hp, rfl⟩ := nI_of h1
    have hp2 : 1295 < p := (nI_ltI (a := 1295) (by decide) hp).mp h2
    rw [posI_nI hp] at h
    unfold posB at h
    rw [decide_eq_false (show ¬ p < 1296 by omega), Bool.false_and] at h
    exact h
  · obtain ⟨p, hp, rfl⟩ := nI_of h1
    have hp2 : p < 1296 := by
      rcases Nat.lt_or_ge p 1296 with q | q
      · exact q
      · exact absurd (nI_lt (a := 1295) (by omega) hp) h2
    rw [posI_nI hp] at h
    unfold posB at h
    rw [decide_eq_true hp2, Bool.true_and, ← fitsI_nI hc (Nat.lt_succ_of_lt (fx_lt hp2)) (fi_lt p) (se_lt p)] at h
    refine r_fx hp2 (r_fi hp2 (r_se hp2 (r_is hc hR (bI_br (fun e => ?_) (fun e => ?_)))))
    · rw [e] at h; exact h
    · rw [e] at h; exact h
theorem r_num {f a s t : Nat} (ht : t < 2) {Q : Int32 → Prop} (h : Q (nI (pnum f a s t))) : w_X10_numberOf (nI f) (nI a) (nI s - 1) (nI t) Q := by
  rw [← i_num] at h
  unfold w_X10_numberOf wb_X10_numberOf_25
  rcases (show t = 0 ∨ t = 1 by omega) with q | q <;> rw [q] at h ⊢
  · exact ⟨fun _ => h, fun q => absurd rfl q⟩
  · exact ⟨fun q => absurd q (by decide +kernel), fun _ => h⟩
theorem r_behind {c : Cfg} (hc : CfgOk c) {p a b : Nat} (hp : posB c p = true) (hm : mvB c p a b = true) {Q : Int32 → Prop} (h : Q (nI (sh p a b))) : w_X10_behind (nI p) (nI a) (nI b) Q := by
  obtain ⟨h1, h2, h3, h4, h5⟩ := posB_spec.mp hp
  obtain ⟨-, -, -, -, ha8, hb8⟩ := mv_wb hc hp hm
  obtain ⟨-, -, -, m4⟩ := mvB_spec.mp hm
  have hn := hc.hn
  have hs := se_lt p
  have hse : se p = 0 ∨ (1 ≤ se p ∧ se p ≤ c.n ∧ fi p + 1 < se p ∧ se p ≠ fx p + 1) := by
    by_cases hg : c.geese = 1
    · rw [if_pos hg] at h5; exact Or.inl h5
    · rw [if_neg hg] at h5; exact Or.inr h5
  unfold w_X10_behind
  unfold sh at h
  rcases (show tu p = 0 ∨ tu p = 1 by have := tu_lt p; omega) with ht | ht
  · rw [if_pos ht] at m4
    rw [if_pos m4, ht] at h
    refine r_tu h1 ?_
    rw [ht]
    exact ⟨fun q => absurd rfl q, fun _ => r_fi h1 (r_se h1 (r_num (t := 1) (by decide) h))⟩
  · rw [if_neg (by omega)] at m4
    rw [if_neg (show ¬ a = fx p by omega), ht] at h
    refine r_tu h1 ?_
    rw [ht]
    refine ⟨fun _ => r_fi h1 ⟨fun e => ?_, fun e => ?_⟩, fun q => absurd q (by decide +kernel)⟩
    · have n1 : ¬ a = fi p := fun q => e (by rw [q])
      rw [if_neg n1] at h
      refine r_fi h1 ?_
      unfold wb_X10_behind_37 wb_X10_behind_54
      refine r_se h1 ?_
      have s1 : a + 1 = se p := by rcases m4.1 with q | q <;> first | exact absurd q n1 | exact q
      have e2 : nI (se p) - 1 = nI a := by rw [← s1, nI_pred]
      rw [e2]
      refine ⟨fun q => absurd rfl q, fun _ => ⟨fun _ => r_fx h1 ?_, fun q => absurd (nI_pos' (by omega)) q⟩⟩
      rw [i_min _ _ (by omega) (by omega), i_max _ _ (by omega) (by omega), ← nI_pred (max (fi p) b), Nat.min_comm, Nat.max_comm]
      exact r_num (t := 0) (by decide) h
    · have n1 : a = fi p := ((nI_eq (by omega) (by omega)).mp e).symm
      rw [if_pos n1] at h
      unfold wb_X10_behind_37 wb_X10_behind_54
      refine r_se h1 ?_
      rcases hse with h0 | h0
      · rw [if_pos h0] at h
        rw [h0]
        refine ⟨fun _ => r_se h1 ?_, fun q => absurd m1_lt (by rw [show (-1 : Int32) = nI 0 - 1 by decide +kernel, q]; exact nI_pos (by omega))⟩
        rw [h0]
        refine ⟨fun q => absurd q (by decide +kernel), fun _ => r_fx h1 (r_num (t := 0) (by decide) h)⟩
      · rw [if_neg (by omega)] at h
        rw [nI_pr h0.1]
        refine ⟨fun _ => r_se h1 ?_, fun q => ?_⟩
        · rw [nI_pr h0.1]
          refine ⟨fun _ => r_fx h1 ?_, fun q => absurd (nI_pos' (by omega)) q⟩
          rw [i_min _ _ (by omega) (by omega), i_max _ _ (by omega) (by omega), ← nI_pred (max b (se p - 1))]
          exact r_num (t := 0) (by decide) h
        · have := (nI_eq (by omega) (by omega)).mp q
          omega
