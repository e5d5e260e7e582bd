/-! BITS: a number by a test of its bits; the class's small methods -/
def bits (f : Nat → Bool) : Nat → Nat
  | 0 => 0
  | n + 1 => 2 ^ n * (if f n then 1 else 0) + bits f n
theorem bits_lt (f : Nat → Bool) : ∀ n, bits f n < 2 ^ n
  | 0 => by rw [bits]; decide
  | n + 1 => by
    have h := bits_lt f n
    rw [bits, Nat.pow_succ]
    split <;> omega
theorem bits_test (f : Nat → Bool) (i : Nat) : ∀ n, (bits f n).testBit i = (decide (i < n) && f i)
  | 0 => by rw [bits, Nat.zero_testBit]; rfl
  | n + 1 => by
    have h := bits_test f i n
    have hl := bits_lt f n
    rw [bits, Nat.testBit_two_pow_mul_add _ hl, h]
    by_cases h1 : i < n
    · rw [if_pos h1, decide_eq_true h1, decide_eq_true (show i < n + 1 by omega)]
    · rw [if_neg h1]
      by_cases h2 : i = n
      · subst h2
        rw [Nat.sub_self, decide_eq_true (show i < i + 1 by omega), Bool.true_and]
        cases f i <;> rfl
      · rw [decide_eq_false (show ¬ i < n + 1 by omega), Bool.false_and]
        split
        · rw [Nat.testBit_lt_two_pow (Nat.one_lt_two_pow (by omega))]
        · rw [Nat.zero_testBit]
theorem bits_cong {f g : Nat → Bool} {n : Nat} (h : ∀ i, i < n → f i = g i) : bits f n = bits g n := Nat.eq_of_testBit_eq fun i => by
  rw [bits_test, bits_test]
  by_cases hi : i < n
  · rw [h i hi]
  · rw [decide_eq_false hi]; rfl
theorem b_nI (m i : Nat) : bt (nI m) i = (decide (i < 32) && m.testBit i) := by
  unfold bt nI
  show (BitVec.ofNat 32 m).getLsbD i = _
  rw [BitVec.getLsbD_ofNat]
theorem b_one {j i : Nat} (hj : j < 32) (hi : i < 32) : bt ((1 : Int32) <<< (nI j &&& 31)) i = decide (i = j) := by
  rw [b_shl j hj _ hi, show (1 : Int32) = nI 1 from rfl, b_nI]
  by_cases h : i = j
  · subst h
    rw [Nat.sub_self]
    simp
  · rw [decide_eq_false h]
    by_cases h2 : j ≤ i
    · rw [decide_eq_true h2, Bool.true_and, Nat.testBit_lt_two_pow (Nat.one_lt_two_pow (by omega)), Bool.and_false]
    · rw [decide_eq_false h2, Bool.false_and]
theorem nI_bits {m : Nat} (hm : m < 256) (X : Int32) : nI m &&& X = nI (bits (fun i => m.testBit i && bt X i) 8) := b_ext fun i hi => by
  rw [b_and, b_nI, b_nI, bits_test, decide_eq_true hi, Bool.true_and, Bool.true_and]
  by_cases h : i < 8
  · rw [decide_eq_true h, Bool.true_and]
  · rw [decide_eq_false h, Bool.false_and, Nat.testBit_lt_two_pow (Nat.lt_of_lt_of_le hm (Nat.pow_le_pow_right (n := 2) (i := 8) (by decide) (by omega)))]; rfl
def bI (b : Bool) : Int32 := if b then 1 else 0
theorem bI_0 (b : Bool) : bI b = 0 ↔ b = false := by cases b <;> decide +kernel
theorem bI_n0 (b : Bool) : ¬ bI b = 0 ↔ b = true := by cases b <;> decide +kernel
theorem bI_nr (b : Bool) : narrow .boolean (.int (bI b)) = .int (bI b) := by cases b <;> rfl
theorem bI_ft (b : Bool) : fits .boolean (.int (bI b)) = true := by cases b <;> rfl
/-- a branch on a boolean answer -/
theorem bI_br {b : Bool} {A B : Prop} (h1 : b = false → A) (h2 : b = true → B) : (bI b = 0 → A) ∧ (¬ bI b = 0 → B) := ⟨fun h => h1 ((bI_0 b).mp h), fun h => h2 ((bI_n0 b).mp h)⟩
theorem bI_br2 {b : Bool} {A B : Prop} (h1 : b = false → A) (h2 : b = true → B) : (¬ bI b = 0 → B) ∧ (bI b = 0 → A) := ⟨fun h => h2 ((bI_n0 b).mp h), fun h => h1 ((bI_0 b).mp h)⟩
/-- the class's field k shows the configuration c -/
def FIs (u : MU) (k : Nat) (c : Cfg) : Prop := u k 0 = nI c.n ∧ u k 2 = nI c.traps ∧ u k 3 = nI c.geese ∧ ∀ b, b < 8 → u (k + 3) b = nI (c.near b)
def hasI (c : Cfg) (x : Int32) : Bool := !decide (x < 0) && !decide (nI c.n ≤ x)
def fitsI (c : Cfg) (x y z : Int32) : Bool := hasI c x && hasI c y && !decide (x = y) && (if c.geese = 1 then decide (z = -1) else hasI c z && !decide (z ≤ y) && !decide (z = x))
theorem s_has {u : MU} {k : Nat} {c : Cfg} (hF : FIs u k c) {x : Int32} {Q : Int32 → Prop} (h : Q (bI (hasI c x))) : w_X1_has k u x Q := by
  unfold w_X1_has
  rw [hF.1]
  unfold hasI at h
  refine ⟨fun h1 => ?_, fun h1 => ⟨fun h2 => ?_, fun h2 => ?_⟩⟩
  · rw [decide_eq_true h1] at h; exact h
  · rw [decide_eq_false h1, decide_eq_true h2] at h; exact h
  · rw [decide_eq_false h1, decide_eq_false h2] at h; exact h
theorem s_fits {u : MU} {k : Nat} {c : Cfg} (hc : CfgOk c) (hF : FIs u k c) {x y z : Int32} {Q : Int32 → Prop} (h : Q (bI (fitsI c x y z))) : w_X1_fits k u x y z Q := by
  unfold w_X1_fits
  have hgg : (u k 3 = 1) ↔ c.geese = 1 := by
    rw [hF.2.2.1]
    rcases hc.hg with e | e <;> rw [e] <;> decide +kernel
  unfold fitsI at h
  refine s_has hF (bI_br (fun e1 => ?_) (fun e1 => ?_))
  · rw [e1] at h; exact h
  · refine s_has hF (bI_br (fun e2 => ?_) (fun e2 => ?_))
    · rw [e1, e2] at h; exact h
    · rw [e1, e2] at h
      refine ⟨fun e3 => ⟨fun e4 => ?_, fun e4 => ?_⟩, fun e3 => ?_⟩
      · rw [decide_eq_false e3, if_neg (fun q => e4 (hgg.mpr q))] at h
        refine s_has hF (bI_br (fun e5 => ?_) (fun e5 => ⟨fun e6 => ?_, fun e6 => ⟨fun e7 => ?_, fun e7 => ?_⟩⟩))
        · rw [e5] at h; exact h
        · rw [e5, decide_eq_true e6] at h; exact h
        · rw [e5, decide_eq_false e6, decide_eq_true e7] at h; exact h
        · rw [e5, decide_eq_false e6, decide_eq_false e7] at h; exact h
      · rw [decide_eq_false e3, if_pos (hgg.mp e4)] at h
        refine ⟨fun e5 => ?_, fun e5 => ?_⟩
        · rw [decide_eq_false e5] at h; exact h
        · rw [decide_eq_true e5] at h; exact h
      · rw [decide_eq_true e3] at h; exact h
theorem hasI_nI {c : Cfg} (hc : CfgOk c) {a : Nat} (ha : a < 2 ^ 31) : hasI c (nI a) = decide (a < c.n) := by
  have hn := hc.hn
  unfold hasI
  rw [decide_eq_false (nI_pos ha), Bool.not_false, Bool.true_and]
  by_cases h : a < c.n
  · rw [decide_eq_true h, decide_eq_false (nI_ge h (by omega))]; rfl
  · rw [decide_eq_false h, decide_eq_true (nI_le (by omega) ha)]; rfl
theorem m1_lt : (-1 : Int32) < 0 := by decide
theorem nI_pr {s : Nat} (h : 1 ≤ s) : nI s - 1 = nI (s - 1) := by
  obtain ⟨k, rfl⟩ : ∃ k, s = k + 1 := ⟨s - 1, by omega⟩
  rw [nI_pred]; rfl
theorem fitsI_nI {c : Cfg} (hc : CfgOk c) {f a s : Nat} (hf : f < 9) (ha : a < 9) (hs : s < 9) : fitsI c (nI f) (nI a) (nI s - 1) = fitsB c f a s := by
  have hn := hc.hn
  unfold fitsI fitsB
  rw [hasI_nI hc (show f < 2 ^ 31 by omega), hasI_nI hc (show a < 2 ^ 31 by omega)]
  have e1 : (decide (nI f = nI a)) = decide (f = a) := by simp only [nI_eq (show f < 2 ^ 31 by omega) (show a < 2 ^ 31 by omega)]
  have e1' : (!decide (f = a)) = decide (f ≠ a) := by by_cases q : f = a <;> simp [q]
  rw [e1, e1']
  congr 1
  by_cases hg : c.geese = 1
  · rw [if_pos hg, if_pos hg]
    rcases Nat.eq_zero_or_pos s with h0 | h0
    · subst h0; decide +kernel
    · rw [nI_pr h0, decide_eq_false (show ¬ s = 0 by omega)]
      refine decide_eq_false (fun q => ?_)
      have := nI_pos (n := s - 1) (by omega)
      rw [q] at this
      exact this m1_lt
  · rw [if_neg hg, if_neg hg]
    rcases Nat.eq_zero_or_pos s with h0 | h0
    · subst h0
      have z : hasI c (nI 0 - 1) = false := by unfold hasI; rw [decide_eq_true (show nI 0 - 1 < 0 by decide +kernel)]; rfl
      rw [z]; simp
    · rw [nI_pr h0, hasI_nI hc (show s - 1 < 2 ^ 31 by omega), Bool.eq_iff_iff]
      simp only [Bool.and_eq_true, decide_eq_true_eq, Bool.not_eq_true', decide_eq_false_iff_not, nI_leI (show s - 1 < 2 ^ 31 by omega) (show a < 2 ^ 31 by omega), nI_eq (show s - 1 < 2 ^ 31 by omega) (show f < 2 ^ 31 by omega)]
      constructor
      · rintro ⟨⟨q1, q2⟩, q3⟩; exact ⟨⟨⟨h0, by omega⟩, by omega⟩, by omega⟩
      · rintro ⟨⟨⟨q1, q2⟩, q3⟩, q4⟩; exact ⟨⟨by omega, by omega⟩, by omega⟩
/-- parts of a position's number, as ints -/
theorem i_fx {p : Nat} (h : p < 1296) : nI p / 162 = nI (fx p) := pk_div (d := 162) (by omega) (by decide) (by decide)
theorem i_fi {p : Nat} (h : p < 1296) : (nI p - nI p / 162 * 162) / 18 = nI (fi p) := by
  have e : nI p - nI p / 162 * 162 = nI (p % 162) := pk_rem (d := 162) (by omega) (by decide) (by decide)
  rw [e]
  exact pk_div (d := 18) (by omega) (by decide) (by decide)
theorem i_se {p : Nat} (h : p < 1296) : (nI p - nI p / 18 * 18) / 2 - 1 = nI (se p) - 1 := by
  have e : nI p - nI p / 18 * 18 = nI (p % 18) := pk_rem (d := 18) (by omega) (by decide) (by decide)
  rw [e]
  have e2 : nI (p % 18) / 2 = nI (p % 18 / 2) := pk_div (d := 2) (by omega) (by decide) (by decide)
  rw [e2]; rfl
theorem i_tu {p : Nat} (h : p < 1296) : nI p - nI p / 2 * 2 = nI (tu p) := pk_rem (d := 2) (by omega) (by decide) (by decide)
theorem i_num (f a s t : Nat) : (162 * nI f + 18 * nI a + 2 * (nI s - 1 + 1)) + nI t = nI (pnum f a s t) := by
  have e : nI s - 1 + 1 = nI s := Int32.sub_add_cancel _ _
  rw [e, show (162 : Int32) = nI 162 from rfl, show (18 : Int32) = nI 18 from rfl, show (2 : Int32) = nI 2 from rfl, pk_mul, pk_mul, pk_mul, nI_add, nI_add, nI_add]
  rfl
theorem s_fx {p : Nat} (hp : p < 1296) {Q : Int32 → Prop} (h : Q (nI (fx p))) : w_X9_foxOf (nI p) Q := by unfold w_X9_foxOf; rw [i_fx hp]; exact h
theorem s_fi {p : Nat} (hp : p < 1296) {Q : Int32 → Prop} (h : Q (nI (fi p))) : w_X9_firstOf (nI p) Q := by unfold w_X9_firstOf; rw [i_fi hp]; exact h
theorem s_se {p : Nat} (hp : p < 1296) {Q : Int32 → Prop} (h : Q (nI (se p) - 1)) : w_X9_secondOf (nI p) Q := by unfold w_X9_secondOf; rw [i_se hp]; exact h
theorem s_tu {p : Nat} (hp : p < 1296) {Q : Int32 → Prop} (h : Q (nI (tu p))) : w_X9_turnOf (nI p) Q := by unfold w_X9_turnOf; rw [i_tu hp]; exact h
theorem s_num {f a s t : Nat} {Q : Int32 → Prop} (h : Q (nI (pnum f a s t))) : w_X9_numberOf (nI f) (nI a) (nI s - 1) (nI t) Q := by unfold w_X9_numberOf; rw [i_num]; exact h
/-- whether an int is a position -/
def posI (c : Cfg) (x : Int32) : Bool := !decide (x < 0) && posB c x.toNatClampNeg
theorem posI_nI {c : Cfg} {p : Nat} (h : p < 2 ^ 31) : posI c (nI p) = posB c p := by
  unfold posI
  rw [decide_eq_false (nI_pos h), nI_clamp h]; rfl
theorem posI_of {c : Cfg} {x : Int32} (h : posI c x = true) : ∃ p, x = nI p ∧ p < 1296 ∧ posB c p = true := by
  unfold posI at h
  rw [Bool.and_eq_true, Bool.not_eq_true', decide_eq_false_iff_not] at h
  obtain ⟨j, hj, rfl⟩ := nI_of h.1
  rw [nI_clamp hj] at h
  exact ⟨j, rfl, (posB_spec.mp h.2).1, h.2⟩
theorem s_holds {u : MU} {k : Nat} {c : Cfg} (hc : CfgOk c) (hF : FIs u k c) {x : Int32} {Q : Int32 → Prop} (h : Q (bI (posI c x))) : w_X1_holds k u x Q := by
  unfold w_X1_holds
  refine ⟨fun h1 => ?_, fun h1 => ⟨fun h2 => ?_, fun h2 => ?_⟩⟩
  · unfold posI at h; rw [decide_eq_true h1] at h; exact h
  · obtain ⟨p, hp, rfl⟩ := nI_of h1
    have hp2 : p < 1296 := (nI_ltI hp (by decide)).mp h2
    refine s_fx hp2 (s_fi hp2 (s_se hp2 (s_fits hc hF ⟨bI_nr _, ?_⟩)))
    rw [fitsI_nI hc (Nat.lt_succ_of_lt (fx_lt hp2)) (fi_lt p) (se_lt p)]
    rw [posI_nI hp] at h
    unfold posB at h
    rw [decide_eq_true hp2, Bool.true_and] at h
    exact h
  · obtain ⟨p, hp, rfl⟩ := nI_of h1
    have hp2 : ¬ p < 1296 := fun q => h2 ((nI_ltI hp (by decide)).mpr q)
    rw [posI_nI hp] at h
    unfold posB at h
    rw [decide_eq_false hp2, Bool.false_and] at h
    exact h
