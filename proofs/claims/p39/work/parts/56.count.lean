/-! HOW MANY BITS: Long.bitCount, Integer.bitCount; the first bit and the rest -/
def mk (a : Nat) : Nat → Nat
  | 0 => 0
  | k + 1 => 256 * mk a k + a
def mapB (g : Nat → Nat) : Nat → Nat → Nat
  | 0, _ => 0
  | k + 1, x => 256 * mapB g k (x / 256) + g (x % 256)
theorem and_split (h m l r : Nat) (hl : l < 256) (hr : r < 256) : (256 * h + l) &&& (256 * m + r) = 256 * (h &&& m) + (l &&& r) := by
  have hlr : l &&& r < 256 := Nat.and_lt_two_pow (n := 8) l hr
  refine Nat.eq_of_testBit_eq fun i => ?_
  rw [Nat.testBit_and, show (256 : Nat) = 2 ^ 8 from rfl, Nat.testBit_two_pow_mul_add _ hl, Nat.testBit_two_pow_mul_add _ hr, Nat.testBit_two_pow_mul_add _ hlr]
  by_cases hi : i < 8
  · rw [if_pos hi, if_pos hi, if_pos hi, Nat.testBit_and]
  · rw [if_neg hi, if_neg hi, if_neg hi, Nat.testBit_and]
def g1 (l : Nat) : Nat := l - (l / 2 &&& 85)
def g2 (l : Nat) : Nat := (l &&& 51) + (l / 4 &&& 51)
def g3 (l : Nat) : Nat := (l + l / 16) &&& 15
theorem t1 : ∀ l, l < 256 → ∀ b, b < 2 → (l / 2 + 128 * b) &&& 85 = (l / 2 &&& 85) ∧ (l / 2 &&& 85) ≤ l ∧ g1 l < 256 := by decide +kernel
theorem t2 : ∀ l, l < 256 → ∀ b, b < 4 → (l / 4 + 64 * b) &&& 51 = (l / 4 &&& 51) ∧ g2 l < 256 := by decide +kernel
theorem st1 : ∀ k x, x < 256 ^ k → x - (x / 2 &&& mk 85 k) = mapB g1 k x
  | 0, x, h => by rw [Nat.pow_zero] at h; rw [show x = 0 by omega]; rfl
  | k + 1, x, h => by
    rw [Nat.pow_succ] at h
    have ih := st1 k (x / 256) (by omega)
    have e : x / 2 = 256 * (x / 256 / 2) + (x % 256 / 2 + 128 * (x / 256 % 2)) := by omega
    have t := t1 (x % 256) (by omega) (x / 256 % 2) (by omega)
    rw [mk, mapB, ← ih, e, and_split _ _ _ _ (by omega) (by omega), t.1]
    have l1 : (x / 256 / 2 &&& mk 85 k) ≤ x / 256 := Nat.le_trans Nat.and_le_left (by omega)
    unfold g1
    have := t.2.1
    omega
theorem st2 : ∀ k x, x < 256 ^ k → (x &&& mk 51 k) + (x / 4 &&& mk 51 k) = mapB g2 k x
  | 0, x, h => by rw [Nat.pow_zero] at h; rw [show x = 0 by omega]; rfl
  | k + 1, x, h => by
    rw [Nat.pow_succ] at h
    have ih := st2 k (x / 256) (by omega)
    have e : x / 4 = 256 * (x / 256 / 4) + (x % 256 / 4 + 64 * (x / 256 % 4)) := by omega
    have e0 : x = 256 * (x / 256) + x % 256 := by omega
    have t := t2 (x % 256) (by omega) (x / 256 % 4) (by omega)
    rw [mk, mapB, ← ih, e, and_split _ _ _ _ (by omega) (by omega), t.1]
    have e1 : x &&& (256 * mk 51 k + 51) = 256 * (x / 256 &&& mk 51 k) + (x % 256 &&& 51) := by
      conv => lhs; rw [e0]
      exact and_split _ _ _ _ (by omega) (by omega)
    rw [e1]
    unfold g2
    omega
/-- each byte's halves are at most 4 -/
def lowB (x : Nat) : Prop := ∀ k, x / 256 ^ k % 16 ≤ 4 ∧ x / 256 ^ k % 256 / 16 ≤ 4
theorem lowB_div {x : Nat} (h : lowB x) : lowB (x / 256) := fun k => by
  have := h (k + 1)
  rw [Nat.pow_succ, Nat.mul_comm, ← Nat.div_div_eq_div_mul] at this
  exact this
theorem t3 : ∀ l, l < 256 → ∀ b, b < 5 → l % 16 ≤ 4 → l / 16 ≤ 4 → l + (l / 16 + 16 * b) < 256 ∧ (l + (l / 16 + 16 * b)) &&& 15 = g3 l := by decide +kernel
theorem st3 : ∀ k x, x < 256 ^ k → lowB x → (x + x / 16) &&& mk 15 k = mapB g3 k x
  | 0, x, h, _ => by rw [Nat.pow_zero] at h; rw [show x = 0 by omega]; rfl
  | k + 1, x, h, hb => by
    rw [Nat.pow_succ] at h
    have ih := st3 k (x / 256) (by omega) (lowB_div hb)
    have b0 := hb 0
    have b1 := hb 1
    rw [Nat.pow_zero, Nat.div_one] at b0
    rw [Nat.pow_one] at b1
    have t := t3 (x % 256) (by omega) (x / 256 % 16) (by omega) (by omega) (by omega)
    have e : x + x / 16 = 256 * (x / 256 + x / 256 / 16) + (x % 256 + (x % 256 / 16 + 16 * (x / 256 % 16))) := by omega
    rw [mk, mapB, ← ih, e, and_split _ _ _ _ t.1 (by omega), t.2]
theorem mapB_div (g : Nat → Nat) (hg : ∀ l, l < 256 → g l < 256) (k x : Nat) : mapB g (k + 1) x / 256 = mapB g k (x / 256) ∧ mapB g (k + 1) x % 256 = g (x % 256) := by
  have := hg (x % 256) (by omega)
  rw [mapB]
  omega
theorem mapB_lt (g : Nat → Nat) (hg : ∀ l, l < 256 → g l < 256) : ∀ k x, mapB g k x < 256 ^ k
  | 0, _ => by rw [mapB]; decide
  | k + 1, x => by
    have h1 := mapB_lt g hg k (x / 256)
    have h2 := hg (x % 256) (by omega)
    rw [mapB, Nat.pow_succ]
    omega
def g12 (l : Nat) : Nat := g2 (g1 l)
theorem t4 : ∀ l, l < 256 → g12 l % 16 ≤ 4 ∧ g12 l / 16 ≤ 4 ∧ g12 l < 256 := by decide +kernel
theorem mapB_low : ∀ k x, lowB (mapB g12 k x)
  | 0, x, j => by rw [mapB, Nat.zero_div]; decide
  | k + 1, x, 0 => by
    have h := (mapB_div g12 (fun l hl => (t4 l hl).2.2) k x).2
    have t := t4 (x % 256) (by omega)
    rw [Nat.pow_zero, Nat.div_one]
    omega
  | k + 1, x, j + 1 => by
    have h := (mapB_div g12 (fun l hl => (t4 l hl).2.2) k x).1
    have := mapB_low k (x / 256) j
    rw [Nat.pow_succ, Nat.mul_comm, ← Nat.div_div_eq_div_mul, h]
    exact this
theorem mapB_comp {f g h : Nat → Nat} (hg : ∀ l, l < 256 → g l < 256) (e : ∀ l, l < 256 → f (g l) = h l) : ∀ k x, mapB f k (mapB g k x) = mapB h k x
  | 0, _ => rfl
  | k + 1, x => by
    have d := mapB_div g hg k x
    rw [mapB, d.1, d.2, mapB_comp hg e k (x / 256), e _ (by omega), mapB]
/-- bits of a byte -/
def pc (l : Nat) : Nat := g3 (g2 (g1 l))
theorem pc_ct : ∀ l, l < 256 → pc l = fb_ct (fun i => l.testBit i) 8 := by decide +kernel
theorem pc_le : ∀ l, l < 256 → pc l ≤ 8 := by decide +kernel
def sumB : Nat → Nat → Nat
  | 0, _ => 0
  | k + 1, x => sumB k (x / 256) + pc (x % 256)
theorem sumB_ct : ∀ k x, sumB k x = fb_ct (fun i => x.testBit i) (8 * k)
  | 0, _ => rfl
  | k + 1, x => by
    rw [sumB, sumB_ct k (x / 256), pc_ct _ (by omega), show 8 * (k + 1) = 8 + 8 * k by omega, fb_ct_split, Nat.add_comm]
    congr 1
    · refine fb_ct_cong (fun i hi => ?_)
      show (x % 2 ^ 8).testBit i = _
      rw [Nat.testBit_mod_two_pow, decide_eq_true hi, Bool.true_and]
    · refine fb_ct_cong (fun i _ => ?_)
      show (x / 2 ^ 8).testBit i = _
      rw [Nat.testBit_div_two_pow, Nat.add_comm]
theorem dvm {m a b : Nat} (hb : b < m) : (m * a + b) / m = a := by rw [Nat.mul_add_div (by omega), Nat.div_eq_of_lt hb, Nat.add_zero]
theorem sm1 {A0 A1 A2 A3 c0 c1 c2 : Nat} (e0 : A0 = 256 * A1 + c0) (e1 : A1 = 256 * A2 + c1) (e2 : A2 = 256 * A3 + c2) : A0 + A1 = 65536 * (A2 + A3) + (256 * (c1 + c2) + (c0 + c1)) := by omega
theorem sm2 {A0 A1 A2 A3 A4 c0 c1 c2 c3 : Nat} (e0 : A0 = 256 * A1 + c0) (e1 : A1 = 256 * A2 + c1) (e2 : A2 = 256 * A3 + c2) (e3 : A3 = 256 * A4 + c3) : A0 = 4294967296 * A4 + (16777216 * c3 + 65536 * c2 + 256 * c1 + c0) := by omega
theorem sm3 {A0 A1 A2 A3 A4 A5 A6 A7 r0 r1 r2 r3 : Nat} (a0 : A0 = 4294967296 * A4 + r0) (a1 : A1 = 4294967296 * A5 + r1) (a2 : A2 = 4294967296 * A6 + r2) (a3 : A3 = 4294967296 * A7 + r3) : A0 + A1 + (A2 + A3) = 4294967296 * (A4 + A5 + (A6 + A7)) + (r0 + r1 + (r2 + r3)) := by
  rw [a0, a1, a2, a3, Nat.mul_add, Nat.mul_add, Nat.mul_add]
  generalize 4294967296 * A4 = x4
  generalize 4294967296 * A5 = x5
  generalize 4294967296 * A6 = x6
  generalize 4294967296 * A7 = x7
  omega
theorem sm4 {A B c : Nat} (e : A = 256 * B + c) : ∃ z, A = 128 * z + c := ⟨2 * B, by omega⟩
theorem sum8 (x : Nat) : ((mapB pc 8 x + mapB pc 8 x / 256 + (mapB pc 8 x + mapB pc 8 x / 256) / 65536 + (mapB pc 8 x + mapB pc 8 x / 256 + (mapB pc 8 x + mapB pc 8 x / 256) / 65536) / 4294967296)) % 128 = sumB 8 x := by
  have h0 := pc_le (x % 256) (by omega)
  have h1 := pc_le (x / 256 % 256) (by omega)
  have h2 := pc_le (x / 256 / 256 % 256) (by omega)
  have h3 := pc_le (x / 256 / 256 / 256 % 256) (by omega)
  have h4 := pc_le (x / 256 / 256 / 256 / 256 % 256) (by omega)
  have h5 := pc_le (x / 256 / 256 / 256 / 256 / 256 % 256) (by omega)
  have h6 := pc_le (x / 256 / 256 / 256 / 256 / 256 / 256 % 256) (by omega)
  have h7 := pc_le (x / 256 / 256 / 256 / 256 / 256 / 256 / 256 % 256) (by omega)
  simp only [mapB, sumB]
  generalize pc (x % 256) = c0 at *
  generalize pc (x / 256 % 256) = c1 at *
  generalize pc (x / 256 / 256 % 256) = c2 at *
  generalize pc (x / 256 / 256 / 256 % 256) = c3 at *
  generalize pc (x / 256 / 256 / 256 / 256 % 256) = c4 at *
  generalize pc (x / 256 / 256 / 256 / 256 / 256 % 256) = c5 at *
  generalize pc (x / 256 / 256 / 256 / 256 / 256 / 256 % 256) = c6 at *
  generalize pc (x / 256 / 256 / 256 / 256 / 256 / 256 / 256 % 256) = c7 at *
  obtain ⟨A7, e7⟩ : ∃ z, z = 256 * 0 + c7 := ⟨_, rfl⟩
  rw [← e7]
  obtain ⟨A6, e6⟩ : ∃ z, z = 256 * A7 + c6 := ⟨_, rfl⟩
  rw [← e6]
  obtain ⟨A5, e5⟩ : ∃ z, z = 256 * A6 + c5 := ⟨_, rfl⟩
  rw [← e5]
  obtain ⟨A4, e4⟩ : ∃ z, z = 256 * A5 + c4 := ⟨_, rfl⟩
  rw [← e4]
  obtain ⟨A3, e3⟩ : ∃ z, z = 256 * A4 + c3 := ⟨_, rfl⟩
  rw [← e3]
  obtain ⟨A2, e2⟩ : ∃ z, z = 256 * A3 + c2 := ⟨_, rfl⟩
  rw [← e2]
  obtain ⟨A1, e1⟩ : ∃ z, z = 256 * A2 + c1 := ⟨_, rfl⟩
  rw [← e1]
  obtain ⟨A0, e0⟩ : ∃ z, z = 256 * A1 + c0 := ⟨_, rfl⟩
  rw [← e0]
  have q1 : A0 / 256 = A1 := by rw [e0]; exact dvm (by clear e0 e1 e2 e3 e4 e5 e6 e7; omega)
  rw [q1]
  have q3 : (A0 + A1) / 65536 = A2 + A3 := by rw [sm1 e0 e1 e2]; exact dvm (by clear e0 e1 e2 e3 e4 e5 e6 e7 q1; omega)
  rw [q3]
  have q5 : (A0 + A1 + (A2 + A3)) / 4294967296 = A4 + A5 + (A6 + A7) := by
    rw [sm3 (sm2 e0 e1 e2 e3) (sm2 e1 e2 e3 e4) (sm2 e2 e3 e4 e5) (sm2 e3 e4 e5 e6)]
    exact dvm (by clear e0 e1 e2 e3 e4 e5 e6 e7 q1 q3; omega)
  rw [q5]
  obtain ⟨z0, w0⟩ := sm4 e0
  obtain ⟨z1, w1⟩ := sm4 e1
  obtain ⟨z2, w2⟩ := sm4 e2
  obtain ⟨z3, w3⟩ := sm4 e3
  obtain ⟨z4, w4⟩ := sm4 e4
  obtain ⟨z5, w5⟩ := sm4 e5
  obtain ⟨z6, w6⟩ := sm4 e6
  obtain ⟨z7, w7⟩ := sm4 e7
  have f7 : A7 = c7 := by rw [e7]; exact Nat.zero_add c7
  clear e0 e1 e2 e3 e4 e5 e6 e7 q1 q3 q5
  rw [w0, w1, w2, w3, w4, w5, w6, w7]
  rw [show 128 * z0 + c0 + (128 * z1 + c1) + (128 * z2 + c2 + (128 * z3 + c3)) + (128 * z4 + c4 + (128 * z5 + c5) + (128 * z6 + c6 + (128 * z7 + c7))) = 128 * (z0 + z1 + z2 + z3 + z4 + z5 + z6 + z7) + (c0 + c1 + c2 + c3 + c4 + c5 + c6 + c7) by omega, Nat.mul_add_mod, Nat.mod_eq_of_lt (by omega)]
  omega
