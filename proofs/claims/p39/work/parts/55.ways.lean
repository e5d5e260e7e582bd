/-! WAYS BACK, what is allowed, what is shifted -/
theorem tp_bit : ∀ j, j < 31 → (1 : Int32) <<< (nI j &&& 31) = nI (2 ^ j) := by decide +kernel
theorem s_isTrap {u : MU} {k : Nat} {c : Cfg} (hF : FIs u k c) {b : Nat} (hb : b < 31) {Q : Int32 → Prop} (h : Q (bI (c.traps.testBit b))) : w_X1_isTrap k u (nI b) Q := by
  unfold w_X1_isTrap
  refine s_bit (by omega) ?_
  rw [hF.2.1, tp_bit b hb]
  refine ⟨fun h1 => ?_, fun h1 => ?_⟩
  · rw [(fa_bit hb).mp h1] at h; exact h
  · have e : c.traps.testBit b = true := by
      cases q : c.traps.testBit b
      · exact absurd ((fa_bit hb).mpr q) h1
      · rfl
    rw [e] at h; exact h
theorem lN_0 : lN 0 = 0 := rfl
theorem s_waysBack {u : MU} {k : Nat} {c : Cfg} (hc : CfgOk c) (hF : FIs u k c) {p : Nat} (hp : posB c p = true) {Q : Int64 → Prop} (h : Q (lN (Wb c p))) : w_X1_waysBack k u (nI p) Q := by
  obtain ⟨h1, h2, h3, h4, h5⟩ := posB_spec.mp hp
  have hn := hc.hn
  have hs := se_lt p
  have hse : se p = 0 ∨ (1 ≤ se p ∧ se p ≤ c.n ∧ fi p + 1 < se p ∧ se p ≠ fx p + 1) := by
    by_cases hg : c.geese = 1
    · rw [if_pos hg] at h5; exact Or.inl h5
    · rw [if_neg hg] at h5; exact Or.inr h5
  unfold w_X1_waysBack
  refine s_fx h1 (s_fi h1 (s_se h1 (s_taken h1 (fun X hX => s_tu h1 ?_))))
  have bX : ∀ i, i < 8 → bt X i = !tkB p i := fun i hi => by rw [hX, b_not (by omega), b_tk h1 (by omega)]
  have m0 : ∀ i, i < 64 → (Wb c p).testBit i = wbB c p (i / 8) (i % 8) := fun i hi => by unfold Wb; rw [bits_test, decide_eq_true hi, Bool.true_and]
  have big : ∀ {x i : Nat}, x < 2 ^ 64 → ¬ i < 64 → x.testBit i = false := fun hx hi => Nat.testBit_lt_two_pow (Nat.lt_of_lt_of_le hx (Nat.pow_le_pow_right (by decide) (by omega)))
  have fin : ∀ {x : Nat}, x < 2 ^ 64 → (∀ i, i < 64 → x.testBit i = wbB c p (i / 8) (i % 8)) → Q (lN x) := fun {x} hx hq => by
    have e : x = Wb c p := Nat.eq_of_testBit_eq fun i => by
      by_cases hi : i < 64
      · rw [hq i hi, m0 i hi]
      · rw [big hx hi, big (Wb_lt c p) hi]
    rw [e]; exact h
  rcases (show tu p = 0 ∨ tu p = 1 by have := tu_lt p; omega) with ht | ht
  · rw [ht]
    refine ⟨fun _ => s_isTrap hF (by omega) ?_, fun q => absurd q (by decide +kernel)⟩
    have bl : ∀ {x : Int32} {P : Int32 → Prop}, P (((1 : Int32) <<< (x &&& 31)) - 1) → w_X9_below x P := fun z => z
    -- the second goose, behind any first part
    have snd : ∀ A : Nat, A < 2 ^ 64 → (∀ i, i < 64 → A.testBit i = (decide (i / 8 = fi p) && ((c.near (fi p)).testBit (i % 8) && (!tkB p (i % 8) && decide (i % 8 < fi p))) && !c.traps.testBit (fi p))) → wb_X1_waysBack_77 k u Q (nI (se p) - 1) X (lN A) := fun A hA hAt => by
      unfold wb_X1_waysBack_77 wb_X1_waysBack_94
      rcases hse with h0 | h0
      · rw [h0]
        refine ⟨fun _ => fin hA (fun i hi => ?_), fun q => absurd (by decide +kernel) q⟩
        rw [hAt i hi]
        unfold wbB
        rw [if_neg (by omega), h0]
        by_cases e : i / 8 = fi p
        · rw [e]; cases (c.near (fi p)).testBit (i % 8) <;> cases tkB p (i % 8) <;> cases c.traps.testBit (fi p) <;> simp
        · rw [decide_eq_false e]; simp
      · rw [nI_pr h0.1]
        refine ⟨fun q => absurd m1_lt (by rw [← q]; exact nI_pos (by omega)), fun _ => s_isTrap hF (by omega) (bI_br (fun e => bl (s_moves hc hF (by omega) ?_)) (fun e => fin hA (fun i hi => ?_)))⟩
        · rw [if_pos (by omega)]
          have rl : rowB (c.near (se p - 1)) (X &&& ((1 : Int32) <<< (nI (se p - 1) &&& 31) - 1)) (se p - 1) < 2 ^ 64 := rowB_lt (by omega)
          refine (congrArg Q (or_lN (z := Wb c p) (fun i hi => ?_) hA rl (Wb_lt c p))).mpr h
          rw [m0 i hi, hAt i hi, rowB_test, b_and, bX _ (by omega), b_below _ _ (by omega) (by omega)]
          unfold wbB
          rw [if_neg (by omega)]
          by_cases e1 : i / 8 = fi p
          · rw [e1, decide_eq_false (show ¬ fi p = se p - 1 by omega)]
            cases (c.near (fi p)).testBit (i % 8) <;> cases tkB p (i % 8) <;> cases c.traps.testBit (fi p) <;> simp
          · by_cases e2 : i / 8 = se p - 1
            · rw [decide_eq_false e1, e2, decide_eq_true (show se p - 1 + 1 = se p by omega), e]
              cases (c.near (se p - 1)).testBit (i % 8) <;> cases tkB p (i % 8) <;> simp
            · rw [decide_eq_false e1, decide_eq_false e2, decide_eq_false (show ¬ i / 8 + 1 = se p by omega)]; simp
        · rw [hAt i hi]
          unfold wbB
          rw [if_neg (by omega)]
          by_cases e1 : i / 8 = fi p
          · rw [e1]
            cases (c.near (fi p)).testBit (i % 8) <;> cases tkB p (i % 8) <;> cases c.traps.testBit (fi p) <;> simp
          · by_cases e2 : i / 8 = se p - 1
            · rw [decide_eq_false e1, e2, e]; simp
            · rw [decide_eq_false e1, decide_eq_false (show ¬ i / 8 + 1 = se p by omega)]; simp
    refine bI_br (fun e => bl (s_moves hc hF (fi_lt p) ?_)) (fun e => ?_)
    · rw [if_pos (by omega)]
      refine snd _ (rowB_lt (by omega)) (fun i hi => ?_)
      rw [rowB_test, b_and, bX _ (by omega), b_below _ _ (fi_lt p) (by omega), e]
      simp
    · refine snd 0 (by decide) (fun i hi => ?_)
      rw [Nat.zero_testBit, e]; simp
  · rw [ht]
    refine ⟨fun q => absurd rfl q, fun _ => s_isTrap hF (by omega) (bI_br (fun e => s_moves hc hF (by omega) ?_) (fun e => ?_))⟩
    · rw [if_pos (by omega)]
      refine fin (rowB_lt (by omega)) (fun i hi => ?_)
      rw [rowB_test, bX _ (by omega)]
      unfold wbB
      rw [if_pos ht]
      by_cases e1 : i / 8 = fx p
      · rw [e1, e]; simp
      · rw [decide_eq_false e1]; simp
    · rw [← lN_0]
      refine fin (by decide) (fun i hi => ?_)
      rw [Nat.zero_testBit]
      unfold wbB
      rw [if_pos ht]
      by_cases e1 : i / 8 = fx p
      · rw [e1, e]; simp
      · rw [decide_eq_false e1]; simp
theorem i_min (a b : Nat) (ha : a < 2 ^ 31) (hb : b < 2 ^ 31) : (if nI a < nI b then nI a else nI b) = nI (min b a) := by
  by_cases h : a < b
  · rw [if_pos (nI_lt h hb), Nat.min_eq_right (Nat.le_of_lt h)]
  · rw [if_neg (nI_nlt (by omega) ha), Nat.min_eq_left (by omega)]
theorem i_max (a b : Nat) (ha : a < 2 ^ 31) (hb : b < 2 ^ 31) : (if nI b < nI a then nI a else nI b) = nI (max b a) := by
  by_cases h : b < a
  · rw [if_pos (nI_lt h ha), Nat.max_eq_right (Nat.le_of_lt h)]
  · rw [if_neg (nI_nlt (by omega) hb), Nat.max_eq_left (by omega)]
theorem s_shifted {p a b : Nat} (hp : p < 1296) (ha : a < 9) (hb : b < 9) {Q : Int32 → Prop} (h : Q (nI (sh p a b))) : w_X9_shifted (nI p) (nI a) (nI b) Q := by
  have h1 := fx_lt hp
  have h2 := fi_lt p
  have h3 := se_lt p
  have h4 := tu_lt p
  unfold w_X9_shifted
  refine s_fx hp (s_fi hp (s_se hp (s_tu hp (fun t ht => ?_))))
  have et : t = nI (1 - tu p) := by rw [ht]; exact pk_sub (a := 1) (by omega)
  subst et
  unfold sh at h
  refine ⟨fun e1 => ⟨fun e2 => ?_, fun e2 => ?_⟩, fun e1 => ?_⟩
  · have n1 : ¬ a = fx p := fun q => e1 (by rw [q])
    have n2 : ¬ a = fi p := fun q => e2 (by rw [q])
    rw [if_neg n1, if_neg n2] at h
    unfold wb_X9_shifted_54
    refine ⟨fun _ => ?_, fun q => absurd m1_lt (by rw [← q]; exact nI_pos (by omega))⟩
    rw [i_min _ _ (by omega) (by omega), i_max _ _ (by omega) (by omega), ← nI_pred (max b (fi p))]
    exact s_num h
  · have n2 : a = fi p := (nI_eq (by omega) (by omega)).mp e2
    have n1 : ¬ a = fx p := fun q => e1 (by rw [q])
    rw [if_neg n1, if_pos n2] at h
    unfold wb_X9_shifted_54
    rcases Nat.eq_zero_or_pos (se p) with h0 | h0
    · rw [if_pos h0] at h
      rw [h0]
      refine ⟨fun q => absurd (by decide +kernel) q, fun _ => ?_⟩
      rw [show (-1 : Int32) = nI 0 - 1 by decide +kernel]
      exact s_num h
    · rw [if_neg (by omega)] at h
      rw [nI_pr h0]
      refine ⟨fun _ => ?_, fun q => absurd m1_lt (by rw [← q]; exact nI_pos (by omega))⟩
      rw [i_min _ _ (by omega) (by omega), i_max _ _ (by omega) (by omega), ← nI_pred (max b (se p - 1))]
      exact s_num h
  · have n1 : a = fx p := (nI_eq (by omega) (by omega)).mp e1
    rw [if_pos n1] at h
    exact s_num h
/-- one bit of a long, by >> -/
theorem sc64 : ∀ k, k < 64 → (((nI k).toInt64 &&& 63).toBitVec.smod 64).toNat = k := by decide +kernel
theorem lN_bit {n k : Nat} (hk : k < 64) : (lN n >>> ((nI k).toInt64 &&& 63)) &&& 1 = if n.testBit k then 1 else 0 := by
  apply Int64.toBitVec_inj.mp
  apply BitVec.eq_of_getLsbD_eq
  intro i hi
  rw [Int64.toBitVec_and, BitVec.getLsbD_and, Int64.toBitVec_shiftRight]
  show (((lN n).toBitVec.sshiftRight (((nI k).toInt64 &&& 63).toBitVec.smod 64).toNat).getLsbD i && (1 : Int64).toBitVec.getLsbD i) = _
  rw [sc64 k hk, BitVec.getLsbD_sshiftRight]
  have e1 : (1 : Int64).toBitVec.getLsbD i = decide (i = 0) := by
    rw [show (1 : Int64).toBitVec = BitVec.ofNat 64 1 from rfl, BitVec.getLsbD_ofNat]
    by_cases h : i = 0
    · subst h; rfl
    · rw [Nat.testBit_lt_two_pow (Nat.one_lt_two_pow h), Bool.and_false, decide_eq_false h]
  have e0 : (0 : Int64).toBitVec.getLsbD i = false := BitVec.getLsbD_zero
  rw [e1]
  by_cases h : i = 0
  · subst h
    have e2 : (lN n).toBitVec.getLsbD k = n.testBit k := by
      rw [show (lN n).toBitVec = BitVec.ofNat 64 n from rfl, BitVec.getLsbD_ofNat, decide_eq_true hk, Bool.true_and]
    cases hb : n.testBit k
    · rw [if_neg Bool.false_ne_true, e0, Nat.add_zero, if_pos hk, e2, hb]; rfl
    · rw [if_pos rfl, e1]; simp [hk, e2, hb]
  · rw [decide_eq_false h, Bool.and_false]
    cases hb : n.testBit k
    · rw [if_neg Bool.false_ne_true]; exact e0.symm
    · rw [if_pos rfl, e1, decide_eq_false h]
theorem s_mn {a b : Nat} {Q : Int32 → Prop} (h : Q (nI (8 * a + b))) : w_X9_moveNumber (nI a) (nI b) Q := by
  unfold w_X9_moveNumber
  rw [show (8 : Int32) = nI 8 from rfl, pk_mul, nI_add]
  exact h
def alI (c : Cfg) (p : Nat) (x y : Int32) : Bool := hasI c x && hasI c y && mvB c p x.toNatClampNeg y.toNatClampNeg
theorem hasI_of {c : Cfg} (hc : CfgOk c) {x : Int32} (h : hasI c x = true) : ∃ a, x = nI a ∧ a < c.n := by
  have h' := h
  unfold hasI at h'
  rw [Bool.and_eq_true, Bool.not_eq_true', decide_eq_false_iff_not] at h'
  obtain ⟨j, hj, rfl⟩ := nI_of h'.1
  rw [hasI_nI hc hj] at h
  exact ⟨j, rfl, of_decide_eq_true h⟩
theorem s_allows {u : MU} {k : Nat} {c : Cfg} (hc : CfgOk c) (hF : FIs u k c) {p : Nat} (hp : posB c p = true) {x y : Int32} {Q : Int32 → Prop} (h : Q (bI (alI c p x y))) : w_X1_allows k u (nI p) x y Q := by
  have hn := hc.hn
  unfold w_X1_allows
  unfold alI at h
  refine s_has hF (bI_br (fun e1 => ?_) (fun e1 => ?_))
  · rw [e1] at h; exact h
  · refine s_has hF (bI_br2 (fun e2 => ?_) (fun e2 => ?_))
    · rw [e1, e2] at h; exact h
    · rw [e1, e2] at h
      obtain ⟨a, rfl, ha⟩ := hasI_of hc e1
      obtain ⟨b, rfl, hb⟩ := hasI_of hc e2
      refine s_movesOf hc hF hp (s_mn ?_)
      rw [lN_bit (show 8 * a + b < 64 by omega), lg_cmp_eq]
      rw [nI_clamp (by omega), nI_clamp (by omega)] at h
      have e3 : (Mv c p).testBit (8 * a + b) = mvB c p a b := by
        unfold Mv
        rw [bits_test, decide_eq_true (by omega), Bool.true_and, show (8 * a + b) / 8 = a by omega, show (8 * a + b) % 8 = b by omega]
      rw [e3]
      cases q : mvB c p a b
      · rw [q] at h
        exact ⟨fun _ => h, fun z => absurd rfl z⟩
      · rw [q] at h
        exact ⟨fun z => absurd z (by decide +kernel), fun _ => h⟩
