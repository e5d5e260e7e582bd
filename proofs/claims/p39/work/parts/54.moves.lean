/-! MOVES of the class as bits of a long -/
def Mv (c : Cfg) (p : Nat) : Nat := bits (fun i => mvB c p (i / 8) (i % 8)) 64
def Wb (c : Cfg) (p : Nat) : Nat := bits (fun i => wbB c p (i / 8) (i % 8)) 64
theorem Mv_lt (c : Cfg) (p : Nat) : Mv c p < 2 ^ 64 := bits_lt _ _
theorem Wb_lt (c : Cfg) (p : Nat) : Wb c p < 2 ^ 64 := bits_lt _ _
theorem s_bit {j : Nat} (hj : j < 2 ^ 31) {Q : Int32 → Prop} (h : Q ((1 : Int32) <<< (nI j &&& 31))) : w_X9_bitOf (nI j) Q := ⟨fun _ => h, fun h2 => absurd (nI_pos' hj) h2⟩
/-- the bit of a second goose, or none -/
def sbit (s : Nat) : Int32 := if s = 0 then 0 else (1 : Int32) <<< (nI (s - 1) &&& 31)
theorem s_sbit {s : Nat} (hs : s < 9) {Q : Int32 → Prop} (h : Q (sbit s)) : w_X9_bitOf (nI s - 1) Q := by
  unfold sbit at h
  rcases Nat.eq_zero_or_pos s with h0 | h0
  · subst h0
    exact ⟨fun h2 => absurd h2 (by decide +kernel), fun _ => h⟩
  · rw [if_neg (by omega)] at h
    rw [nI_pr h0]
    exact s_bit (by omega) h
theorem b_sbit {s i : Nat} (hs : s < 9) (hi : i < 32) : bt (sbit s) i = decide (i + 1 = s) := by
  unfold sbit
  by_cases h : s = 0
  · rw [if_pos h, b_0, decide_eq_false (by omega)]
  · rw [if_neg h, b_one (by omega) hi, decide_eq_decide]
    omega
def tkI (p : Nat) : Int32 := ((1 : Int32) <<< (nI (fx p) &&& 31) ||| (1 : Int32) <<< (nI (fi p) &&& 31)) ||| sbit (se p)
theorem b_tk {p i : Nat} (hp : p < 1296) (hi : i < 32) : bt (tkI p) i = tkB p i := by
  unfold tkI tkB
  rw [b_or, b_or, b_one (Nat.lt_trans (fx_lt hp) (by decide)) hi, b_one (Nat.lt_trans (fi_lt p) (by decide)) hi, b_sbit (se_lt p) hi]
theorem s_taken {u : MU} {k p : Nat} (hp : p < 1296) {Q : Int32 → Prop} (h : Q (tkI p)) : w_X1_taken k u (nI p) Q := by
  have h1 := fx_lt hp
  have h2 := fi_lt p
  unfold w_X1_taken
  exact s_fx hp (s_bit (by omega) (s_fi hp (s_bit (by omega) (s_se hp (s_sbit (se_lt p) h)))))
/-- one row of near, cut and shifted to its place -/
def rowB (m : Nat) (X : Int32) (a : Nat) : Nat := bits (fun i => m.testBit i && bt X i) 8 * 2 ^ (8 * a)
theorem rowB_lt {m a : Nat} {X : Int32} (ha : a < 8) : rowB m X a < 2 ^ 64 := by
  unfold rowB
  have h := bits_lt (fun i => m.testBit i && bt X i) 8
  have h2 : 2 ^ (8 * a) ≤ 2 ^ 56 := Nat.pow_le_pow_right (by decide) (by omega)
  calc bits (fun i => m.testBit i && bt X i) 8 * 2 ^ (8 * a) < 2 ^ 8 * 2 ^ (8 * a) := Nat.mul_lt_mul_of_pos_right h (Nat.two_pow_pos _)
    _ ≤ 2 ^ 8 * 2 ^ 56 := Nat.mul_le_mul_left _ h2
    _ = 2 ^ 64 := by decide
theorem rowB_test {m a i : Nat} {X : Int32} : (rowB m X a).testBit i = (decide (i / 8 = a) && (m.testBit (i % 8) && bt X (i % 8))) := by
  unfold rowB
  rw [Nat.testBit_mul_two_pow, bits_test]
  by_cases h : i / 8 = a
  · rw [decide_eq_true h, decide_eq_true (show 8 * a ≤ i by omega), Bool.true_and, Bool.true_and, decide_eq_true (show i - 8 * a < 8 by omega), Bool.true_and, show i - 8 * a = i % 8 by omega]
  · rw [decide_eq_false h, Bool.false_and]
    by_cases h2 : 8 * a ≤ i
    · rw [decide_eq_true h2, Bool.true_and, decide_eq_false (show ¬ i - 8 * a < 8 by omega), Bool.false_and]
    · rw [decide_eq_false h2, Bool.false_and]
theorem s_moves {u : MU} {k : Nat} {c : Cfg} (hc : CfgOk c) (hF : FIs u k c) {a : Nat} (ha : a < 9) {X : Int32} {Q : Int64 → Prop} (h : Q (lN (if a < 8 then rowB (c.near a) X a else 0))) : w_X1_moves k u (nI a) X Q := by
  unfold w_X1_moves
  refine ⟨fun h1 => absurd h1 (nI_pos (by omega)), fun _ => ⟨fun h2 => ?_, fun h2 => ?_⟩⟩
  · have ha8 : a < 8 := (nI_ltI (by omega) (by decide)).mp h2
    rw [if_pos ha8] at h
    refine ⟨vp_in_nI ha8 (by decide), ?_⟩
    rw [nI_clamp (by omega), hF.2.2.2 a ha8, nI_bits (hc.hb a), nI_l (Nat.lt_of_lt_of_le (bits_lt _ 8) (by decide)), show (8 : Int32) = nI 8 from rfl, pk_mul, wb_shl _ (by omega)]
    exact h
  · have ha8 : ¬ a < 8 := fun q => h2 (nI_lt q (by decide))
    rw [if_neg ha8] at h
    unfold wb_X1_moves_13
    exact h
theorem s_moves_none {u : MU} {k : Nat} {X : Int32} {Q : Int64 → Prop} (h : Q (lN 0)) : w_X1_moves k u (nI 0 - 1) X Q := by
  unfold w_X1_moves wb_X1_moves_13
  exact ⟨fun _ => h, fun h1 => absurd (by decide +kernel) h1⟩
theorem b_not {x : Int32} {i : Nat} (hi : i < 32) : bt (x ^^^ (-1)) i = !bt x i := by rw [b_xor, b_m1 i hi, Bool.xor_true]
/-- above and below of a burrow -/
theorem b_above : ∀ a i, a < 9 → i < 8 → bt ((-2 : Int32) <<< (nI a &&& 31)) i = decide (a < i) := by
  have h : ∀ a, a < 9 → ∀ i, i < 8 → bt ((-2 : Int32) <<< (nI a &&& 31)) i = decide (a < i) := by decide +kernel
  exact fun a i ha hi => h a ha i hi
theorem b_below : ∀ a i, a < 9 → i < 8 → bt (((1 : Int32) <<< (nI a &&& 31)) - 1) i = decide (i < a) := by
  have h : ∀ a, a < 9 → ∀ i, i < 8 → bt (((1 : Int32) <<< (nI a &&& 31)) - 1) i = decide (i < a) := by decide +kernel
  exact fun a i ha hi => h a ha i hi
theorem or_lN {x y z : Nat} (h : ∀ i, i < 64 → z.testBit i = (x.testBit i || y.testBit i)) (hx : x < 2 ^ 64) (hy : y < 2 ^ 64) (hz : z < 2 ^ 64) : lN x ||| lN y = lN z := by
  rw [fb_orL]
  congr 1
  refine Nat.eq_of_testBit_eq fun i => ?_
  rw [Nat.testBit_or]
  by_cases hi : i < 64
  · exact (h i hi).symm
  · rw [Nat.testBit_lt_two_pow (Nat.lt_of_lt_of_le hx (Nat.pow_le_pow_right (by decide) (by omega))), Nat.testBit_lt_two_pow (Nat.lt_of_lt_of_le hy (Nat.pow_le_pow_right (by decide) (by omega))), Nat.testBit_lt_two_pow (Nat.lt_of_lt_of_le hz (Nat.pow_le_pow_right (by decide) (by omega)))]; rfl
theorem s_movesOf {u : MU} {k : Nat} {c : Cfg} (hc : CfgOk c) (hF : FIs u k c) {p : Nat} (hp : posB c p = true) {Q : Int64 → Prop} (h : Q (lN (Mv c p))) : w_X1_movesOf k u (nI p) Q := by
  obtain ⟨h1, h2, h3, h4, h5⟩ := posB_spec.mp hp
  have hn := hc.hn
  have hs := se_lt p
  unfold w_X1_movesOf
  refine s_fi h1 (s_se h1 (s_taken h1 (fun X hX => s_tu h1 ?_)))
  have bX : ∀ i, i < 8 → bt X i = (!tkB p i && !c.traps.testBit i) := fun i hi => by
    rw [hX, b_not (by omega), b_or, b_tk h1 (by omega), hF.2.1, b_nI, decide_eq_true (show i < 32 by omega), Bool.true_and, Bool.not_or]
  have m0 : ∀ i, i < 64 → (Mv c p).testBit i = mvB c p (i / 8) (i % 8) := fun i hi => by unfold Mv; rw [bits_test, decide_eq_true hi, Bool.true_and]
  rcases (show tu p = 0 ∨ tu p = 1 by have := tu_lt p; omega) with ht | ht
  · rw [ht]
    refine ⟨fun q => absurd rfl q, fun _ => s_fx h1 (s_moves hc hF (by omega) ?_)⟩
    rw [if_pos (by omega)]
    refine (congrArg Q (congrArg lN ?_)).mpr h
    refine Nat.eq_of_testBit_eq fun i => ?_
    by_cases hi : i < 64
    · rw [m0 i hi, rowB_test, bX _ (by omega)]
      unfold mvB
      rw [if_pos ht]
      by_cases e : i / 8 = fx p
      · rw [e]; simp [Bool.and_assoc]
      · rw [decide_eq_false e]; simp
    · rw [Nat.testBit_lt_two_pow (Nat.lt_of_lt_of_le (rowB_lt (by omega)) (Nat.pow_le_pow_right (by decide) (by omega))), Nat.testBit_lt_two_pow (Nat.lt_of_lt_of_le (Mv_lt c p) (Nat.pow_le_pow_right (by decide) (by omega)))]
  · rw [ht]
    refine ⟨fun _ => ?_, fun q => absurd q (by decide +kernel)⟩
    have ab : ∀ {x : Int32} {P : Int32 → Prop}, P ((-2 : Int32) <<< (x &&& 31)) → w_X9_above x P := fun z => z
    refine ab (s_moves hc hF (fi_lt p) (ab ?_))
    rw [if_pos (by omega)]
    have t1 : ∀ i, i < 64 → (rowB (c.near (fi p)) (X &&& (-2) <<< (nI (fi p) &&& 31)) (fi p)).testBit i = (decide (i / 8 = fi p) && ((c.near (fi p)).testBit (i % 8) && ((!tkB p (i % 8) && !c.traps.testBit (i % 8)) && decide (fi p < i % 8)))) := fun i hi => by
      rw [rowB_test, b_and, bX _ (by omega), b_above _ _ (fi_lt p) (by omega)]
    rcases Nat.eq_zero_or_pos (se p) with h0 | h0
    · rw [h0]
      refine s_moves_none ?_
      refine (congrArg Q (or_lN (z := Mv c p) (fun i hi => ?_) (rowB_lt (by omega)) (by decide) (Mv_lt c p))).mpr h
      rw [m0 i hi, t1 i hi, Nat.zero_testBit, Bool.or_false]
      unfold mvB
      rw [if_neg (by omega), h0]
      by_cases e : i / 8 = fi p
      · rw [e]; simp [Bool.and_assoc]
      · rw [decide_eq_false e]; simp
    · rw [nI_pr h0]
      have hse : se p ≤ c.n ∧ fi p + 1 < se p := by
        by_cases hg : c.geese = 1
        · rw [if_pos hg] at h5; omega
        · rw [if_neg hg] at h5; omega
      refine s_moves hc hF (by omega) ?_
      rw [if_pos (by omega)]
      refine (congrArg Q (or_lN (z := Mv c p) (fun i hi => ?_) (rowB_lt (by omega)) (rowB_lt (by omega)) (Mv_lt c p))).mpr h
      rw [m0 i hi, t1 i hi, rowB_test, b_and, bX _ (by omega), b_above _ _ (by omega) (by omega)]
      unfold mvB
      rw [if_neg (by omega)]
      by_cases e : i / 8 = fi p
      · rw [e, decide_eq_false (show ¬ fi p = se p - 1 by omega)]; simp [Bool.and_assoc]
      · by_cases e2 : i / 8 = se p - 1
        · rw [decide_eq_false e, e2, decide_eq_true (show se p - 1 + 1 = se p by omega)]; simp [Bool.and_assoc]
        · rw [decide_eq_false e, decide_eq_false e2, decide_eq_false (show ¬ i / 8 + 1 = se p by omega)]; simp
