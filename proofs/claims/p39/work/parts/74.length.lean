/-! there are at most 336 positions -/
theorem fitsB_cong {c c' : Cfg} (h1 : c.n = c'.n) (h2 : c.geese = c'.geese) (f a s : Nat) : fitsB c f a s = fitsB c' f a s := by unfold fitsB; rw [h1, h2]
theorem lpS_cong {c c' : Cfg} (h1 : c.n = c'.n) (h2 : c.geese = c'.geese) (f a : Nat) : ∀ n s, lpS c f a n s = lpS c' f a n s
  | 0, _ => rfl
  | n + 1, s => by rw [lpS, lpS, fitsB_cong h1 h2, lpS_cong h1 h2 f a n (s + 1)]
theorem lpA_cong {c c' : Cfg} (h1 : c.n = c'.n) (h2 : c.geese = c'.geese) (f : Nat) : ∀ n a, lpA c f n a = lpA c' f n a
  | 0, _ => rfl
  | n + 1, a => by rw [lpA, lpA, h1, lpS_cong h1 h2, lpA_cong h1 h2 f n (a + 1)]
theorem lpF_cong {c c' : Cfg} (h1 : c.n = c'.n) (h2 : c.geese = c'.geese) : ∀ n f, lpF c n f = lpF c' n f
  | 0, _ => rfl
  | n + 1, f => by rw [lpF, lpF, h1, lpA_cong h1 h2, lpF_cong h1 h2 n (f + 1)]
def plainC (n g : Nat) : Cfg := (n, 0, g, fun _ => 0)
theorem lp_cong (c : Cfg) : lp c = lp (plainC c.n c.geese) := by
  unfold lp
  exact lpF_cong (c := c) (c' := plainC c.n c.geese) rfl rfl c.n 0
theorem lp_small : ∀ n, n < 9 → ∀ g, g < 3 → (lp (plainC n g)).length ≤ 336 := by decide +kernel
theorem lp_len {c : Cfg} (hc : CfgOk c) : (lp c).length ≤ 336 := by
  rw [lp_cong]
  exact lp_small _ (by have := hc.hn; omega) _ (by rcases hc.hg with h | h <;> omega)
