/-! POSITIONS AND MOVES, as numbers. A position p: fx its fox, fi its first goose, se its second goose plus 1 (0: none), tu its turn -/
def Cfg : Type := Nat × (Nat × (Nat × (Nat → Nat)))
def Cfg.n (c : Cfg) : Nat := c.1
def Cfg.traps (c : Cfg) : Nat := c.2.1
def Cfg.geese (c : Cfg) : Nat := c.2.2.1
def Cfg.near (c : Cfg) : Nat → Nat := c.2.2.2
def fx (p : Nat) : Nat := p / 162
def fi (p : Nat) : Nat := p % 162 / 18
def se (p : Nat) : Nat := p % 18 / 2
def tu (p : Nat) : Nat := p % 2
def pnum (f a s t : Nat) : Nat := 162 * f + 18 * a + 2 * s + t
theorem pnum_fx {f a s t : Nat} (ha : a < 9) (hs : s < 9) (ht : t < 2) : fx (pnum f a s t) = f := by unfold fx pnum; omega
theorem pnum_fi {f a s t : Nat} (ha : a < 9) (hs : s < 9) (ht : t < 2) : fi (pnum f a s t) = a := by unfold fi pnum; omega
theorem pnum_se {f a s t : Nat} (hs : s < 9) (ht : t < 2) : se (pnum f a s t) = s := by unfold se pnum; omega
theorem pnum_tu {f a s t : Nat} (ht : t < 2) : tu (pnum f a s t) = t := by unfold tu pnum; omega
theorem pnum_eq (p : Nat) : pnum (fx p) (fi p) (se p) (tu p) = p := by unfold pnum fx fi se tu; omega
theorem fi_lt (p : Nat) : fi p < 9 := by unfold fi; omega
theorem se_lt (p : Nat) : se p < 9 := by unfold se; omega
theorem tu_lt (p : Nat) : tu p < 2 := by unfold tu; omega
theorem fx_lt {p : Nat} (h : p < 1296) : fx p < 8 := by unfold fx; omega
theorem p_ext {p q : Nat} (h1 : fx p = fx q) (h2 : fi p = fi q) (h3 : se p = se q) (h4 : tu p = tu q) : p = q := by rw [← pnum_eq p, ← pnum_eq q, h1, h2, h3, h4]
/-- what a number must be for a position: fox f, first a, second s - 1 -/
def fitsB (c : Cfg) (f a s : Nat) : Bool := decide (f < c.n) && decide (a < c.n) && decide (f ≠ a) && (if c.geese = 1 then decide (s = 0) else decide (1 ≤ s) && decide (s ≤ c.n) && decide (a + 1 < s) && decide (s ≠ f + 1))
def posB (c : Cfg) (p : Nat) : Bool := decide (p < 1296) && fitsB c (fx p) (fi p) (se p)
def tkB (p b : Nat) : Bool := decide (b = fx p) || decide (b = fi p) || decide (b + 1 = se p)
/-- the move of the piece on a to b -/
def mvB (c : Cfg) (p a b : Nat) : Bool := (c.near a).testBit b && !tkB p b && !c.traps.testBit b && (if tu p = 0 then decide (a = fx p) else (decide (a = fi p) || decide (a + 1 = se p)) && decide (a < b))
/-- a way back: the piece on a came from b -/
def wbB (c : Cfg) (p a b : Nat) : Bool := (c.near a).testBit b && !tkB p b && !c.traps.testBit a && (if tu p = 1 then decide (a = fx p) else (decide (a = fi p) || decide (a + 1 = se p)) && decide (b < a))
/-- the position with the piece of a on b -/
def sh (p a b : Nat) : Nat :=
  if a = fx p then pnum b (fi p) (se p) (1 - tu p)
  else if a = fi p then (if se p = 0 then pnum (fx p) b 0 (1 - tu p) else pnum (fx p) (min b (se p - 1)) (max b (se p - 1) + 1) (1 - tu p))
  else pnum (fx p) (min b (fi p)) (max b (fi p) + 1) (1 - tu p)
def CfgOk (c : Cfg) : Prop := c.n ≤ 8 ∧ (c.geese = 1 ∨ c.geese = 2) ∧ c.traps < 256 ∧ (∀ a, c.near a < 256) ∧ (∀ a b, (c.near a).testBit b = true → a < c.n ∧ b < c.n ∧ a ≠ b) ∧ ∀ a b, (c.near a).testBit b = (c.near b).testBit a
theorem CfgOk.hn {c : Cfg} (h : CfgOk c) : c.n ≤ 8 := h.1
theorem CfgOk.hg {c : Cfg} (h : CfgOk c) : c.geese = 1 ∨ c.geese = 2 := h.2.1
theorem CfgOk.ht {c : Cfg} (h : CfgOk c) : c.traps < 256 := h.2.2.1
theorem CfgOk.hb {c : Cfg} (h : CfgOk c) : ∀ a, c.near a < 256 := h.2.2.2.1
theorem CfgOk.hin {c : Cfg} (h : CfgOk c) : ∀ a b, (c.near a).testBit b = true → a < c.n ∧ b < c.n ∧ a ≠ b := h.2.2.2.2.1
theorem CfgOk.hsym {c : Cfg} (h : CfgOk c) : ∀ a b, (c.near a).testBit b = (c.near b).testBit a := h.2.2.2.2.2
theorem posB_spec {c : Cfg} {p : Nat} : posB c p = true ↔ p < 1296 ∧ fx p < c.n ∧ fi p < c.n ∧ fx p ≠ fi p ∧ (if c.geese = 1 then se p = 0 else 1 ≤ se p ∧ se p ≤ c.n ∧ fi p + 1 < se p ∧ se p ≠ fx p + 1) := by
  unfold posB fitsB
  by_cases hg : c.geese = 1
  · simp only [hg, if_true, Bool.and_eq_true, decide_eq_true_eq]
    constructor
    · rintro ⟨h1, ⟨⟨h2, h3⟩, h4⟩, h5⟩; exact ⟨h1, h2, h3, h4, h5⟩
    · rintro ⟨h1, h2, h3, h4, h5⟩; exact ⟨h1, ⟨⟨h2, h3⟩, h4⟩, h5⟩
  · simp only [hg, if_false, Bool.and_eq_true, decide_eq_true_eq]
    constructor
    · rintro ⟨h1, ⟨⟨h2, h3⟩, h4⟩, ⟨⟨h5, h6⟩, h7⟩, h8⟩; exact ⟨h1, h2, h3, h4, h5, h6, h7, h8⟩
    · rintro ⟨h1, h2, h3, h4, h5, h6, h7, h8⟩; exact ⟨h1, ⟨⟨h2, h3⟩, h4⟩, ⟨⟨h5, h6⟩, h7⟩, h8⟩
theorem tkB_spec {p b : Nat} : tkB p b = false ↔ b ≠ fx p ∧ b ≠ fi p ∧ b + 1 ≠ se p := by
  unfold tkB
  simp only [Bool.or_eq_false_iff, decide_eq_false_iff_not, ne_eq]
  exact ⟨fun h => ⟨h.1.1, h.1.2, h.2⟩, fun h => ⟨⟨h.1, h.2.1⟩, h.2.2⟩⟩
theorem mvB_spec {c : Cfg} {p a b : Nat} : mvB c p a b = true ↔ (c.near a).testBit b = true ∧ (b ≠ fx p ∧ b ≠ fi p ∧ b + 1 ≠ se p) ∧ c.traps.testBit b = false ∧ (if tu p = 0 then a = fx p else (a = fi p ∨ a + 1 = se p) ∧ a < b) := by
  unfold mvB
  rw [← tkB_spec]
  by_cases ht : tu p = 0
  · simp only [ht, if_true, Bool.and_eq_true, decide_eq_true_eq, Bool.not_eq_true']
    exact ⟨fun h => ⟨h.1.1.1, h.1.1.2, h.1.2, h.2⟩, fun h => ⟨⟨⟨h.1, h.2.1⟩, h.2.2.1⟩, h.2.2.2⟩⟩
  · simp only [ht, if_false, Bool.and_eq_true, decide_eq_true_eq, Bool.not_eq_true', Bool.or_eq_true]
    exact ⟨fun h => ⟨h.1.1.1, h.1.1.2, h.1.2, h.2⟩, fun h => ⟨⟨⟨h.1, h.2.1⟩, h.2.2.1⟩, h.2.2.2⟩⟩
theorem wbB_spec {c : Cfg} {p a b : Nat} : wbB c p a b = true ↔ (c.near a).testBit b = true ∧ (b ≠ fx p ∧ b ≠ fi p ∧ b + 1 ≠ se p) ∧ c.traps.testBit a = false ∧ (if tu p = 1 then a = fx p else (a = fi p ∨ a + 1 = se p) ∧ b < a) := by
  unfold wbB
  rw [← tkB_spec]
  by_cases ht : tu p = 1
  · simp only [ht, if_true, Bool.and_eq_true, decide_eq_true_eq, Bool.not_eq_true']
    exact ⟨fun h => ⟨h.1.1.1, h.1.1.2, h.1.2, h.2⟩, fun h => ⟨⟨⟨h.1, h.2.1⟩, h.2.2.1⟩, h.2.2.2⟩⟩
  · simp only [ht, if_false, Bool.and_eq_true, decide_eq_true_eq, Bool.not_eq_true', Bool.or_eq_true]
    exact ⟨fun h => ⟨h.1.1.1, h.1.1.2, h.1.2, h.2⟩, fun h => ⟨⟨⟨h.1, h.2.1⟩, h.2.2.1⟩, h.2.2.2⟩⟩
/-- the pieces of a shifted position, in any case -/
theorem sh_parts {c : Cfg} (hc : CfgOk c) {p a b : Nat} (hp : posB c p = true) (hb : b < c.n) (hf : b ≠ fx p ∧ b ≠ fi p ∧ b + 1 ≠ se p) (ha : a = fx p ∨ a = fi p ∨ a + 1 = se p) :
    (a = fx p ∧ fx (sh p a b) = b ∧ fi (sh p a b) = fi p ∧ se (sh p a b) = se p ∧ tu (sh p a b) = 1 - tu p) ∨
    (a = fi p ∧ se p = 0 ∧ fx (sh p a b) = fx p ∧ fi (sh p a b) = b ∧ se (sh p a b) = 0 ∧ tu (sh p a b) = 1 - tu p) ∨
    (a = fi p ∧ 1 ≤ se p ∧ fx (sh p a b) = fx p ∧ fi (sh p a b) = min b (se p - 1) ∧ se (sh p a b) = max b (se p - 1) + 1 ∧ tu (sh p a b) = 1 - tu p) ∨
    (a ≠ fi p ∧ a + 1 = se p ∧ fx (sh p a b) = fx p ∧ fi (sh p a b) = min b (fi p) ∧ se (sh p a b) = max b (fi p) + 1 ∧ tu (sh p a b) = 1 - tu p) := by
  obtain ⟨h1, h2, h3, h4, h5⟩ := posB_spec.mp hp
  have hn := hc.hn
  have hs := se_lt p
  have ht : 1 - tu p < 2 := by omega
  have hse : se p = 0 ∨ (1 ≤ se p ∧ se p ≤ c.n ∧ fi p + 1 < se p ∧ se p ≠ fx p + 1) := by
    by_cases hg : c.geese = 1
    · rw [if_pos hg] at h5; exact Or.inl h5
    · rw [if_neg hg] at h5; exact Or.inr h5
  unfold sh
  by_cases e1 : a = fx p
  · rw [if_pos e1]
    exact Or.inl ⟨e1, pnum_fx (by omega) hs ht, pnum_fi (by omega) hs ht, pnum_se hs ht, pnum_tu ht⟩
  · rw [if_neg e1]
    by_cases e2 : a = fi p
    · rw [if_pos e2]
      by_cases e3 : se p = 0
      · rw [if_pos e3]
        exact Or.inr (Or.inl ⟨e2, e3, pnum_fx (by omega) (by omega) ht, pnum_fi (by omega) (by omega) ht, pnum_se (by omega) ht, pnum_tu ht⟩)
      · rw [if_neg e3]
        exact Or.inr (Or.inr (Or.inl ⟨e2, by omega, pnum_fx (by omega) (by omega) ht, pnum_fi (by omega) (by omega) ht, pnum_se (by omega) ht, pnum_tu ht⟩))
    · rw [if_neg e2]
      have e3 : a + 1 = se p := by rcases ha with h | h | h <;> first | exact absurd h e1 | exact absurd h e2 | exact h
      exact Or.inr (Or.inr (Or.inr ⟨e2, e3, pnum_fx (by omega) (by omega) ht, pnum_fi (by omega) (by omega) ht, pnum_se (by omega) ht, pnum_tu ht⟩))
theorem sh_lt {p : Nat} (h : fx p < 8) : p < 1296 := by unfold fx at h; omega
theorem sh_pos {c : Cfg} (hc : CfgOk c) {p a b : Nat} (hp : posB c p = true) (hb : b < c.n) (hf : b ≠ fx p ∧ b ≠ fi p ∧ b + 1 ≠ se p) (ha : a = fx p ∨ a = fi p ∨ a + 1 = se p) : posB c (sh p a b) = true := by
  obtain ⟨h1, h2, h3, h4, h5⟩ := posB_spec.mp hp
  have hn := hc.hn
  have H := sh_parts hc hp hb hf ha
  refine posB_spec.mpr ⟨sh_lt (by rcases H with ⟨-, e, -⟩ | ⟨-, -, e, -⟩ | ⟨-, -, e, -⟩ | ⟨-, -, e, -⟩ <;> rw [e] <;> omega), ?_⟩
  by_cases hg : c.geese = 1
  · rw [if_pos hg] at h5 ⊢
    rcases H with ⟨e0, e1, e2, e3, -⟩ | ⟨e0, e00, e1, e2, e3, -⟩ | ⟨e0, e00, e1, e2, e3, -⟩ | ⟨e0, e00, e1, e2, e3, -⟩ <;> rw [e1, e2, e3] <;> refine ⟨?_, ?_, ?_, ?_⟩ <;> omega
  · rw [if_neg hg] at h5 ⊢
    rcases H with ⟨e0, e1, e2, e3, -⟩ | ⟨e0, e00, e1, e2, e3, -⟩ | ⟨e0, e00, e1, e2, e3, -⟩ | ⟨e0, e00, e1, e2, e3, -⟩ <;> rw [e1, e2, e3] <;> refine ⟨?_, ?_, ?_, ?_, ?_, ?_, ?_⟩ <;> omega
theorem sh_tu {c : Cfg} (hc : CfgOk c) {p a b : Nat} (hp : posB c p = true) (hb : b < c.n) (hf : b ≠ fx p ∧ b ≠ fi p ∧ b + 1 ≠ se p) (ha : a = fx p ∨ a = fi p ∨ a + 1 = se p) : tu (sh p a b) = 1 - tu p := by
  rcases sh_parts hc hp hb hf ha with ⟨-, -, -, -, e⟩ | ⟨-, -, -, -, -, e⟩ | ⟨-, -, -, -, -, e⟩ | ⟨-, -, -, -, -, e⟩ <;> exact e
/-- shifted there and back -/
theorem sh_sh {c : Cfg} (hc : CfgOk c) {p a b : Nat} (hp : posB c p = true) (hb : b < c.n) (hf : b ≠ fx p ∧ b ≠ fi p ∧ b + 1 ≠ se p) (ha : a = fx p ∨ a = fi p ∨ a + 1 = se p) : (a ≠ fx (sh p a b) ∧ a ≠ fi (sh p a b) ∧ a + 1 ≠ se (sh p a b)) ∧ (b = fx (sh p a b) ∨ b = fi (sh p a b) ∨ b + 1 = se (sh p a b)) ∧ sh (sh p a b) b a = p := by
  have hq := sh_pos hc hp hb hf ha
  obtain ⟨h1, h2, h3, h4, h5⟩ := posB_spec.mp hp
  have hn := hc.hn
  have ht := tu_lt p
  have hse : se p = 0 ∨ (1 ≤ se p ∧ se p ≤ c.n ∧ fi p + 1 < se p ∧ se p ≠ fx p + 1) := by
    by_cases hg : c.geese = 1
    · rw [if_pos hg] at h5; exact Or.inl h5
    · rw [if_neg hg] at h5; exact Or.inr h5
  have han : a < c.n := by omega
  have H := sh_parts hc hp hb hf ha
  have k1 : a ≠ fx (sh p a b) ∧ a ≠ fi (sh p a b) ∧ a + 1 ≠ se (sh p a b) := by
    rcases H with ⟨e0, e1, e2, e3, -⟩ | ⟨e0, e00, e1, e2, e3, -⟩ | ⟨e0, e00, e1, e2, e3, -⟩ | ⟨e0, e00, e1, e2, e3, -⟩ <;> rw [e1, e2, e3] <;> omega
  have k2 : b = fx (sh p a b) ∨ b = fi (sh p a b) ∨ b + 1 = se (sh p a b) := by
    rcases H with ⟨e0, e1, e2, e3, -⟩ | ⟨e0, e00, e1, e2, e3, -⟩ | ⟨e0, e00, e1, e2, e3, -⟩ | ⟨e0, e00, e1, e2, e3, -⟩ <;> rw [e1, e2, e3] <;> omega
  refine ⟨k1, k2, ?_⟩
  have G := sh_parts hc hq han k1 k2
  rcases H with ⟨e0, e1, e2, e3, e4⟩ | ⟨e0, e00, e1, e2, e3, e4⟩ | ⟨e0, e00, e1, e2, e3, e4⟩ | ⟨e0, e00, e1, e2, e3, e4⟩ <;> rw [e1, e2, e3, e4] at G <;>
    rcases G with ⟨f0, f1, f2, f3, f4⟩ | ⟨f0, f00, f1, f2, f3, f4⟩ | ⟨f0, f00, f1, f2, f3, f4⟩ | ⟨f0, f00, f1, f2, f3, f4⟩ <;> refine p_ext ?_ ?_ ?_ ?_ <;> omega
/-- a move and its way back -/
theorem mv_wb {c : Cfg} (hc : CfgOk c) {p a b : Nat} (hp : posB c p = true) (h : mvB c p a b = true) : posB c (sh p a b) = true ∧ wbB c (sh p a b) b a = true ∧ sh (sh p a b) b a = p ∧ tu (sh p a b) = 1 - tu p ∧ a < 8 ∧ b < 8 := by
  obtain ⟨m1, m2, m3, m4⟩ := mvB_spec.mp h
  have hi := hc.hin a b m1
  have hn := hc.hn
  have ha : a = fx p ∨ a = fi p ∨ a + 1 = se p := by
    by_cases ht : tu p = 0
    · rw [if_pos ht] at m4; exact Or.inl m4
    · rw [if_neg ht] at m4; exact Or.inr m4.1
  have H := sh_sh hc hp hi.2.1 m2 ha
  have T := sh_tu hc hp hi.2.1 m2 ha
  have tl := tu_lt p
  refine ⟨sh_pos hc hp hi.2.1 m2 ha, wbB_spec.mpr ⟨by rw [hc.hsym]; exact m1, H.1, m3, ?_⟩, H.2.2, T, by omega, by omega⟩
  have G := sh_parts hc hp hi.2.1 m2 ha
  obtain ⟨h1, h2, h3, h4, h5⟩ := posB_spec.mp hp
  have hse : se p = 0 ∨ (1 ≤ se p ∧ se p ≤ c.n ∧ fi p + 1 < se p ∧ se p ≠ fx p + 1) := by
    by_cases hg : c.geese = 1
    · rw [if_pos hg] at h5; exact Or.inl h5
    · rw [if_neg hg] at h5; exact Or.inr h5
  by_cases ht : tu p = 0
  · rw [if_pos ht] at m4
    rw [if_pos (by omega)]
    rcases G with ⟨e0, e1, e2, e3, e4⟩ | ⟨e0, e00, e1, e2, e3, e4⟩ | ⟨e0, e00, e1, e2, e3, e4⟩ | ⟨e0, e00, e1, e2, e3, e4⟩ <;> rw [e1] <;> omega
  · rw [if_neg ht] at m4
    rw [if_neg (by omega)]
    rcases G with ⟨e0, e1, e2, e3, e4⟩ | ⟨e0, e00, e1, e2, e3, e4⟩ | ⟨e0, e00, e1, e2, e3, e4⟩ | ⟨e0, e00, e1, e2, e3, e4⟩ <;> rw [e2, e3] <;> omega
theorem wb_mv {c : Cfg} (hc : CfgOk c) {p a b : Nat} (hp : posB c p = true) (h : wbB c p a b = true) : posB c (sh p a b) = true ∧ mvB c (sh p a b) b a = true ∧ sh (sh p a b) b a = p ∧ tu (sh p a b) = 1 - tu p ∧ a < 8 ∧ b < 8 := by
  obtain ⟨m1, m2, m3, m4⟩ := wbB_spec.mp h
  have hi := hc.hin a b m1
  have hn := hc.hn
  have tl := tu_lt p
  have ha : a = fx p ∨ a = fi p ∨ a + 1 = se p := by
    by_cases ht : tu p = 1
    · rw [if_pos ht] at m4; exact Or.inl m4
    · rw [if_neg ht] at m4; exact Or.inr m4.1
  have H := sh_sh hc hp hi.2.1 m2 ha
  have T := sh_tu hc hp hi.2.1 m2 ha
  refine ⟨sh_pos hc hp hi.2.1 m2 ha, mvB_spec.mpr ⟨by rw [hc.hsym]; exact m1, H.1, m3, ?_⟩, H.2.2, T, by omega, by omega⟩
  have G := sh_parts hc hp hi.2.1 m2 ha
  obtain ⟨h1, h2, h3, h4, h5⟩ := posB_spec.mp hp
  have hse : se p = 0 ∨ (1 ≤ se p ∧ se p ≤ c.n ∧ fi p + 1 < se p ∧ se p ≠ fx p + 1) := by
    by_cases hg : c.geese = 1
    · rw [if_pos hg] at h5; exact Or.inl h5
    · rw [if_neg hg] at h5; exact Or.inr h5
  by_cases ht : tu p = 1
  · rw [if_pos ht] at m4
    rw [if_pos (by omega)]
    rcases G with ⟨e0, e1, e2, e3, e4⟩ | ⟨e0, e00, e1, e2, e3, e4⟩ | ⟨e0, e00, e1, e2, e3, e4⟩ | ⟨e0, e00, e1, e2, e3, e4⟩ <;> rw [e1] <;> omega
  · rw [if_neg ht] at m4
    rw [if_neg (by omega)]
    rcases G with ⟨e0, e1, e2, e3, e4⟩ | ⟨e0, e00, e1, e2, e3, e4⟩ | ⟨e0, e00, e1, e2, e3, e4⟩ | ⟨e0, e00, e1, e2, e3, e4⟩ <;> rw [e2, e3] <;> omega
