/-! HOW MANY BITS: Long.bitCount, Integer.bitCount; the first bit and the rest -/
def mk (a : Nat) : Nat → Nat
  | 0 => 0
  | k + 1 => 256 * mk a k + a
def mapB (g : Nat → Nat) : Nat → Nat → Nat
  | 0, _ => 0
  | k + 1, x => 256 * mapB g k (x / 256) + g (x % 256)
theorem and_split (h m l r : Nat) (hl : l < 256) (hr : r < 256) : (256 * h + l) &&& (256 * m + r) = 256 * (h &&& m) + (l &&& r) := by
  have hlr : l &&& r < 256 := Nat.and_lt_two_pow (n := 8) l hr
  refine Nat.eq_of_testBit_eq fun i => ?_
  rw [Nat.testBit_and, show (256 : Nat) = 2 ^ 8 from rfl, Nat.testBit_two_pow_mul_add _ hl, Nat.testBit_two_pow_mul_add _ hr, Nat.testBit_two_pow_mul_add _ hlr]
  by_cases hi : i < 8
  · rw [if_pos hi, if_pos hi, if_pos hi, Nat.testBit_and]
  · rw [if_neg hi, if_neg hi, if_neg hi, Nat.testBit_and]
def g1 (l : Nat) : Nat := l - (l / 2 &&& 85)
def g2 (l : Nat) : Nat := (l &&& 51) + (l / 4 &&& 51)
def g3 (l : Nat) : Nat := (l + l / 16) &&& 15
theorem t1 : ∀ l, l < 256 → ∀ b, b < 2 → (l / 2 + 128 * b) &&& 85 = (l / 2 &&& 85) ∧ (l / 2 &&& 85) ≤ l ∧ g1 l < 256 := by decide +kernel
theorem t2 : ∀ l, l < 256 → ∀ b, b < 4 → (l / 4 + 64 * b) &&& 51 = (l / 4 &&& 51) ∧ g2 l < 256 := by decide +kernel
theorem st1 : ∀ k x, x < 256 ^ k → x - (x / 2 &&& mk 85 k) = mapB g1 k x
  | 0, x, h => by rw [Nat.pow_zero] at h; rw [show x = 0 by omega]; rfl
  | k + 1, x, h => by
    rw [Nat.pow_succ] at h
    have ih := st1 k (x / 256) (by omega)
    have e : x / 2 = 256 * (x / 256 / 2) + (x % 256 / 2 + 128 * (x / 256 % 2)) := by omega
    have t := t1 (x % 256) (by omega) (x / 256 % 2) (by omega)
    rw [mk, mapB, ← ih, e, and_split _ _ _ _ (by omega) (by omega), t.1]
    have l1 : (x / 256 / 2 &&& mk 85 k) ≤ x / 256 := Nat.le_trans Nat.and_le_left (by omega)
    unfold g1
    have := t.2.1
    omega
theorem st2 : ∀ k x, x < 256 ^ k → (x &&& mk 51 k) + (x / 4 &&& mk 51 k) = mapB g2 k x
  | 0, x, h => by rw [Nat.pow_zero] at h; rw [show x = 0 by omega]; rfl
  | k + 1, x, h => by
    rw [Nat.pow_succ] at h
    have ih := st2 k (x / 256) (by omega)
    have e : x / 4 = 256 * (x / 256 / 4) + (x % 256 / 4 + 64 * (x / 256 % 4)) := by omega
    have e0 : x = 256 * (x / 256) + x % 256 := by omega
    have t := t2 (x % 256) (by omega) (x / 256 % 4) (by omega)
    rw [mk, mapB, ← ih, e, and_split _ _ _ _ (by omega) (by omega), t.1]
    have e1 : x &&& (256 * mk 51 k + 51) = 256 * (x / 256 &&& mk 51 k) + (x % 256 &&& 51) := by
      conv => lhs; rw [e0]
      exact and_split _ _ _ _ (by omega) (by omega)
    rw [e1]
    unfold g2
    omega
/-- each byte's halves are at most 4 -/
def lowB (x : Nat) : Prop := ∀ k, x / 256 ^ k % 16 ≤ 4 ∧ x / 256 ^ k % 256 / 16 ≤ 4
theorem lowB_div {x : Nat} (h : lowB x) : lowB (x / 256) := fun k => by
  have := h (k + 1)
  rw [Nat.pow_succ, Nat.mul_comm, ← Nat.div_div_eq_div_mul] at this
  exact this
theorem t3 : ∀ l, l < 256 → ∀ b, b < 5 → l % 16 ≤ 4 → l / 16 ≤ 4 → l + (l / 16 + 16 * b) < 256 ∧ (l + (l / 16 + 16 * b)) &&& 15 = g3 l := by decide +kernel
theorem st3 : ∀ k x, x < 256 ^ k → lowB x → (x + x / 16) &&& mk 15 k = mapB g3 k x
  | 0, x, h, _ => by rw [Nat.pow_zero] at h; rw [show x = 0 by omega]; rfl
  | k + 1, x, h, hb => by
    rw [Nat.pow_succ] at h
    have ih := st3 k (x / 256) (by omega) (lowB_div hb)
    have b0 := hb 0
    have b1 := hb 1
    rw [Nat.pow_zero, Nat.div_one] at b0
    rw [Nat.pow_one] at b1
    have t := t3 (x % 256) (by omega) (x / 256 % 16) (by omega) (by omega) (by omega)
    have e : x + x / 16 = 256 * (x / 256 + x / 256 / 16) + (x % 256 + (x % 256 / 16 + 16 * (x / 256 % 16))) := by omega
    rw [mk, mapB, ← ih, e, and_split _ _ _ _ t.1 (by omega), t.2]
theorem mapB_div (g : Nat → Nat) (hg : ∀ l, l < 256 → g l < 256) (k x : Nat) : mapB g (k + 1) x / 256 = mapB g k (x / 256) ∧ mapB g (k + 1) x % 256 = g (x % 256) := by
  have := hg (x % 256) (by omega)
  rw [mapB]
  omega
theorem mapB_lt (g : Nat → Nat) (hg : ∀ l, l < 256 → g l < 256) : ∀ k x, mapB g k x < 256 ^ k
  | 0, _ => by rw [mapB]; decide
  | k + 1, x => by
    have h1 := mapB_lt g hg k (x / 256)
    have h2 := hg (x % 256) (by omega)
    rw [mapB, Nat.pow_succ]
    omega
def g12 (l : Nat) : Nat := g2 (g1 l)
theorem t4 : ∀ l, l < 256 → g12 l % 16 ≤ 4 ∧ g12 l / 16 ≤ 4 ∧ g12 l < 256 := by decide +kernel
theorem mapB_low : ∀ k x, lowB (mapB g12 k x)
  | 0, x, j => by rw [mapB, Nat.zero_div]; decide
  | k + 1, x, 0 => by
    have h := (mapB_div g12 (fun l hl => (t4 l hl).2.2) k x).2
    have t := t4 (x % 256) (by omega)
    rw [Nat.pow_zero, Nat.div_one]
    omega
  | k + 1, x, j + 1 => by
    have h := (mapB_div g12 (fun l hl => (t4 l hl).2.2) k x).1
    have := mapB_low k (x / 256) j
    rw [Nat.pow_succ, Nat.mul_comm, ← Nat.div_div_eq_div_mul, h]
    exact this
theorem mapB_comp {f g h : Nat → Nat} (hg : ∀ l, l < 256 → g l < 256) (e : ∀ l, l < 256 → f (g l) = h l) : ∀ k x, mapB f k (mapB g k x) = mapB h k x
  | 0, _ => rfl
  | k + 1, x => by
    have d := mapB_div g hg k x
    rw [mapB, d.1, d.2, mapB_comp hg e k (x / 256), e _ (by omega), mapB]
/-- bits of a byte -/
def pc (l : Nat) : Nat := g3 (g2 (g1 l))
theorem pc_ct : ∀ l, l < 256 → pc l = fb_ct (fun i => l.testBit i) 8 := by decide +kernel
theorem pc_le : ∀ l, l < 256 → pc l ≤ 8 := by decide +kernel
def sumB : Nat → Nat → Nat
  | 0, _ => 0
  | k + 1, x => sumB k (x / 256) + pc (x % 256)
theorem sumB_ct : ∀ k x, sumB k x = fb_ct (fun i => x.testBit i) (8 * k)
  | 0, _ => rfl
  | k + 1, x => by
    rw [sumB, sumB_ct k (x / 256), pc_ct _ (by omega), show 8 * (k + 1) = 8 + 8 * k by omega, fb_ct_split, Nat.add_comm]
    congr 1
    · refine fb_ct_cong (fun i hi => ?_)
      show (x % 2 ^ 8).testBit i = _
      rw [Nat.testBit_mod_two_pow, decide_eq_true hi, Bool.true_and]
    · refine fb_ct_cong (fun i _ => ?_)
      show (x / 2 ^ 8).testBit i = _
      rw [Nat.testBit_div_two_pow, Nat.add_comm]
theorem sum8 (x : Nat) : ((mapB pc 8 x + mapB pc 8 x / 256 + (mapB pc 8 x + mapB pc 8 x / 256) / 65536 + (mapB pc 8 x + mapB pc 8 x / 256 + (mapB pc 8 x + mapB pc 8 x / 256) / 65536) / 4294967296)) % 128 = sumB 8 x := by
  have h0 := pc_le (x % 256) (by omega)
  have h1 := pc_le (x / 256 % 256) (by omega)
  have h2 := pc_le (x / 256 / 256 % 256) (by omega)
  have h3 := pc_le (x / 256 / 256 / 256 % 256) (by omega)
  have h4 := pc_le (x / 256 / 256 / 256 / 256 % 256) (by omega)
  have h5 := pc_le (x / 256 / 256 / 256 / 256 / 256 % 256) (by omega)
  have h6 := pc_le (x / 256 / 256 / 256 / 256 / 256 / 256 % 256) (by omega)
  have h7 := pc_le (x / 256 / 256 / 256 / 256 / 256 / 256 / 256 % 256) (by omega)
  simp only [mapB, sumB]
  generalize pc (x % 256) = c0 at *
  generalize pc (x / 256 % 256) = c1 at *
  generalize pc (x / 256 / 256 % 256) = c2 at *
  generalize pc (x / 256 / 256 / 256 % 256) = c3 at *
  generalize pc (x / 256 / 256 / 256 / 256 % 256) = c4 at *
  generalize pc (x / 256 / 256 / 256 / 256 / 256 % 256) = c5 at *
  generalize pc (x / 256 / 256 / 256 / 256 / 256 / 256 % 256) = c6 at *
  generalize pc (x / 256 / 256 / 256 / 256 / 256 / 256 / 256 % 256) = c7 at *
  generalize e7 : 256 * 0 + c7 = A7
  generalize e6 : 256 * A7 + c6 = A6
  generalize e5 : 256 * A6 + c5 = A5
  generalize e4 : 256 * A5 + c4 = A4
  generalize e3 : 256 * A4 + c3 = A3
  generalize e2 : 256 * A3 + c2 = A2
  generalize e1 : 256 * A2 + c1 = A1
  generalize e0 : 256 * A1 + c0 = A0
  have q1 : A0 / 256 = A1 := by omega
  rw [q1]
  have q2 : A0 + A1 = 65536 * (A2 + A3) + (256 * (c1 + c2) + (c0 + c1)) := by omega
  have q3 : (A0 + A1) / 65536 = A2 + A3 := by rw [q2]; omega
  rw [q3]
  have q4 : A0 + A1 + (A2 + A3) = 4294967296 * (A4 + A5 + A6 + A7) + (16777216 * (c3 + c4 + c5 + c6) + 65536 * (c2 + c3 + c4 + c5) + 256 * (c1 + c2 + c3 + c4) + (c0 + c1 + c2 + c3)) := by omega
  have q5 : (A0 + A1 + (A2 + A3)) / 4294967296 = A4 + A5 + A6 + A7 := by rw [q4]; omega
  rw [q5]
  omega
