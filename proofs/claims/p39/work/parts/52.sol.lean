/-! SOLUTIONS: f p = 0 drawn, k + 1: won (k odd) or lost (k even) in k moves -/
def Cnd (c : Cfg) (f : Nat → Nat) (k p : Nat) : Prop :=
  if k % 2 = 0 then (∀ a b, mvB c p a b = true → ∃ j, j < k ∧ j % 2 = 1 ∧ f (sh p a b) = j + 1) ∧ (k = 0 ∨ ∃ a b, mvB c p a b = true ∧ f (sh p a b) = k)
  else (∃ a b, mvB c p a b = true ∧ f (sh p a b) = k) ∧ ∀ a b, mvB c p a b = true → ∀ j, j % 2 = 0 → j + 1 < k → f (sh p a b) ≠ j + 1
def Sol (c : Cfg) (f : Nat → Nat) : Prop := ∀ p, posB c p = true → ∀ k, f p = k + 1 ↔ Cnd c f k p
theorem Cnd_cong {c : Cfg} (hc : CfgOk c) {f g : Nat → Nat} {k p : Nat} (hp : posB c p = true) (h : ∀ q, posB c q = true → ∀ j, j < k → (f q = j + 1 ↔ g q = j + 1)) (hk : Cnd c f k p) : Cnd c g k p := by
  unfold Cnd at hk ⊢
  by_cases e : k % 2 = 0
  · rw [if_pos e] at hk ⊢
    refine ⟨fun a b m => ?_, ?_⟩
    · obtain ⟨j, j1, j2, j3⟩ := hk.1 a b m
      exact ⟨j, j1, j2, (h _ (mv_wb hc hp m).1 j j1).mp j3⟩
    · rcases hk.2 with h0 | ⟨a, b, m, h1⟩
      · exact Or.inl h0
      · rcases Nat.eq_zero_or_pos k with h0 | h0
        · exact Or.inl h0
        · obtain ⟨j, rfl⟩ : ∃ j, k = j + 1 := ⟨k - 1, by omega⟩
          exact Or.inr ⟨a, b, m, (h _ (mv_wb hc hp m).1 j (by omega)).mp h1⟩
  · rw [if_neg e] at hk ⊢
    obtain ⟨⟨a, b, m, h1⟩, h2⟩ := hk
    obtain ⟨j, rfl⟩ : ∃ j, k = j + 1 := ⟨k - 1, by omega⟩
    exact ⟨⟨a, b, m, (h _ (mv_wb hc hp m).1 j (by omega)).mp h1⟩, fun a b m i i1 i2 i3 => h2 a b m i i1 i2 ((h _ (mv_wb hc hp m).1 i (by omega)).mpr i3)⟩
theorem Sol_val {c : Cfg} (hc : CfgOk c) {f g : Nat → Nat} (hf : Sol c f) (hg : Sol c g) : ∀ k p, posB c p = true → (f p = k + 1 ↔ g p = k + 1) := by
  intro k
  induction k using Nat.strongRecOn with
  | ind k ih =>
    intro p hp
    rw [hf p hp k, hg p hp k]
    exact ⟨Cnd_cong hc hp (fun q hq j hj => ih j hj q hq), Cnd_cong hc hp (fun q hq j hj => (ih j hj q hq).symm)⟩
theorem Sol_one {c : Cfg} (hc : CfgOk c) {f g : Nat → Nat} (hf : Sol c f) (hg : Sol c g) {p : Nat} (hp : posB c p = true) : f p = g p := by
  rcases Nat.eq_zero_or_pos (f p) with h | h
  · rcases Nat.eq_zero_or_pos (g p) with h2 | h2
    · rw [h, h2]
    · obtain ⟨k, hk⟩ : ∃ k, g p = k + 1 := ⟨g p - 1, by omega⟩
      rw [(Sol_val hc hf hg k p hp).mpr hk, hk]
  · obtain ⟨k, hk⟩ : ∃ k, f p = k + 1 := ⟨f p - 1, by omega⟩
    rw [(Sol_val hc hf hg k p hp).mp hk, hk]
def anyM (c : Cfg) (p : Nat) (P : Nat → Bool) : Bool := (List.range 64).any fun i => mvB c p (i / 8) (i % 8) && P (sh p (i / 8) (i % 8))
theorem anyM_spec {c : Cfg} (hc : CfgOk c) {p : Nat} (hp : posB c p = true) {P : Nat → Bool} : anyM c p P = true ↔ ∃ a b, mvB c p a b = true ∧ P (sh p a b) = true := by
  unfold anyM
  rw [List.any_eq_true]
  constructor
  · rintro ⟨i, -, h⟩
    rw [Bool.and_eq_true] at h
    exact ⟨i / 8, i % 8, h⟩
  · rintro ⟨a, b, h1, h2⟩
    obtain ⟨-, -, -, -, ha, hb⟩ := mv_wb hc hp h1
    refine ⟨8 * a + b, List.mem_range.mpr (by omega), ?_⟩
    rw [show (8 * a + b) / 8 = a by omega, show (8 * a + b) % 8 = b by omega, h1, h2]
    rfl
theorem anyM_no {c : Cfg} (hc : CfgOk c) {p : Nat} (hp : posB c p = true) {P : Nat → Bool} : anyM c p P = false ↔ ∀ a b, mvB c p a b = true → P (sh p a b) = false := by
  constructor
  · intro h a b m
    cases e : P (sh p a b)
    · rfl
    · rw [(anyM_spec hc hp).mpr ⟨a, b, m, e⟩] at h; cases h
  · intro h
    cases e : anyM c p P
    · rfl
    · obtain ⟨a, b, m, e2⟩ := (anyM_spec hc hp).mp e
      rw [h a b m] at e2; cases e2
/-- by rounds: what is told behind n of them -/
def lostV (v : Nat) : Bool := decide (v % 2 = 1)
def wonV (v : Nat) : Bool := decide (v ≠ 0) && decide (v % 2 = 0)
theorem lostV_spec {v : Nat} : lostV v = true ↔ v % 2 = 1 := by unfold lostV; exact decide_eq_true_iff
theorem wonV_spec {v : Nat} : wonV v = true ↔ v ≠ 0 ∧ v % 2 = 0 := by unfold wonV; rw [Bool.and_eq_true, decide_eq_true_iff, decide_eq_true_iff]
def decB (c : Cfg) (f : Nat → Nat) (p : Nat) : Bool := anyM c p (fun q => lostV (f q)) || !anyM c p (fun q => !wonV (f q))
def rd (c : Cfg) : Nat → Nat → Nat
  | 0, _ => 0
  | n + 1, p => if rd c n p ≠ 0 then rd c n p else if decB c (rd c n) p then n + 1 else 0
theorem rd_keep {c : Cfg} {n p : Nat} (h : rd c n p ≠ 0) : rd c (n + 1) p = rd c n p := by rw [rd, if_pos h]
theorem rd_keeps {c : Cfg} {n p : Nat} (h : rd c n p ≠ 0) : ∀ m, rd c (n + m) p = rd c n p
  | 0 => rfl
  | m + 1 => by
    have e := rd_keeps h m
    rw [← Nat.add_assoc, rd_keep (by rw [e]; exact h), e]
theorem rd_le {c : Cfg} {p : Nat} : ∀ n, rd c n p ≤ n
  | 0 => Nat.le_refl _
  | n + 1 => by
    have h := rd_le (c := c) (p := p) n
    rw [rd]
    split
    · omega
    · split <;> omega
/-- a value k + 1 was told in round k -/
theorem rd_when {c : Cfg} {p k : Nat} : ∀ n, rd c n p = k + 1 → k < n ∧ rd c k p = 0 ∧ decB c (rd c k) p = true
  | 0, h => by rw [rd] at h; omega
  | n + 1, h => by
    rw [rd] at h
    split at h
    · obtain ⟨a, b, d⟩ := rd_when n h
      exact ⟨by omega, b, d⟩
    · rename_i h0
      split at h
      · rename_i h1
        obtain rfl : n = k := by omega
        exact ⟨by omega, by omega, h1⟩
      · omega
theorem rd_eq {c : Cfg} {p k n m : Nat} (h : rd c n p = k + 1) (hm : k < m) : rd c m p = k + 1 := by
  obtain ⟨-, b, d⟩ := rd_when n h
  have e : rd c (k + 1) p = k + 1 := by rw [rd, if_neg (by omega), if_pos d]
  obtain ⟨j, rfl⟩ : ∃ j, m = k + 1 + j := ⟨m - (k + 1), by omega⟩
  rw [rd_keeps (by omega) j, e]
theorem decB_spec {c : Cfg} (hc : CfgOk c) {p : Nat} (hp : posB c p = true) {f : Nat → Nat} : decB c f p = true ↔ (∃ a b, mvB c p a b = true ∧ f (sh p a b) % 2 = 1) ∨ ∀ a b, mvB c p a b = true → f (sh p a b) ≠ 0 ∧ f (sh p a b) % 2 = 0 := by
  unfold decB
  rw [Bool.or_eq_true, anyM_spec hc hp, Bool.not_eq_true', anyM_no hc hp]
  constructor
  · rintro (⟨a, b, m, h⟩ | h)
    · exact Or.inl ⟨a, b, m, lostV_spec.mp h⟩
    · exact Or.inr fun a b m => wonV_spec.mp (by have := h a b m; simpa using this)
  · rintro (⟨a, b, m, h⟩ | h)
    · exact Or.inl ⟨a, b, m, lostV_spec.mpr h⟩
    · exact Or.inr fun a b m => by rw [wonV_spec.mpr (h a b m)]; rfl
/-- what is told in round n is won in an odd one, lost in an even one -/
theorem rd_won {c : Cfg} (hc : CfgOk c) {p n : Nat} (hp : posB c p = true) (h0 : rd c n p = 0) {a b : Nat} (m : mvB c p a b = true) (h : rd c n (sh p a b) % 2 = 1) : n % 2 = 1 ∧ rd c n (sh p a b) = n := by
  obtain ⟨k, hk⟩ : ∃ k, rd c n (sh p a b) = k + 1 := ⟨rd c n (sh p a b) - 1, by omega⟩
  have hkn := (rd_when n hk).1
  rcases Nat.lt_or_ge (k + 1) n with h1 | h1
  · exfalso
    have e : rd c (k + 1) (sh p a b) = k + 1 := rd_eq hk (by omega)
    have d : decB c (rd c (k + 1)) p = true := (decB_spec hc hp).mpr (Or.inl ⟨a, b, m, by rw [e]; omega⟩)
    have z : rd c (k + 1) p = 0 := by
      rcases Nat.eq_zero_or_pos (rd c (k + 1) p) with z | z
      · exact z
      · have := rd_keeps (c := c) (n := k + 1) (p := p) (by omega) (n - (k + 1))
        rw [show k + 1 + (n - (k + 1)) = n by omega] at this
        omega
    have e2 : rd c (k + 2) p = k + 2 := by rw [rd, if_neg (by omega), if_pos d]
    have := rd_keeps (c := c) (n := k + 2) (p := p) (by omega) (n - (k + 2))
    rw [show k + 2 + (n - (k + 2)) = n by omega] at this
    omega
  · omega
theorem rd_lost {c : Cfg} (hc : CfgOk c) {p n : Nat} (hp : posB c p = true) (h0 : rd c n p = 0) (h : ∀ a b, mvB c p a b = true → rd c n (sh p a b) ≠ 0 ∧ rd c n (sh p a b) % 2 = 0) : n % 2 = 0 ∧ (n = 0 ∨ ∃ a b, mvB c p a b = true ∧ rd c n (sh p a b) = n) := by
  rcases Nat.eq_zero_or_pos n with hn | hn
  · subst hn; exact ⟨rfl, Or.inl rfl⟩
  · by_cases hx : ∃ a b, mvB c p a b = true ∧ rd c n (sh p a b) = n
    · obtain ⟨a, b, m, e⟩ := hx
      have := (h a b m).2
      rw [e] at this
      exact ⟨this, Or.inr ⟨a, b, m, e⟩⟩
    · exfalso
      obtain ⟨j, rfl⟩ : ∃ j, n = j + 1 := ⟨n - 1, by omega⟩
      have d : decB c (rd c j) p = true := (decB_spec hc hp).mpr (Or.inr fun a b m => by
        obtain ⟨h1, h2⟩ := h a b m
        obtain ⟨k, hk⟩ : ∃ k, rd c (j + 1) (sh p a b) = k + 1 := ⟨rd c (j + 1) (sh p a b) - 1, by omega⟩
        have l1 := (rd_when _ hk).1
        have l2 : k ≠ j := fun e => hx ⟨a, b, m, by rw [hk, e]⟩
        rw [rd_eq hk (show k < j by omega), ← hk]
        exact ⟨h1, h2⟩)
      have z : rd c j p = 0 := by
        rcases Nat.eq_zero_or_pos (rd c j p) with z | z
        · exact z
        · rw [rd_keep (by omega)] at h0; omega
      rw [rd, if_neg (by omega), if_pos d] at h0
      omega
/-- when a round tells nothing new, the rounds are a solution -/
theorem rd_sol {c : Cfg} (hc : CfgOk c) {n : Nat} (hs : ∀ p, posB c p = true → rd c (n + 1) p = rd c n p) : Sol c (rd c n) := by
  have hd : ∀ p, posB c p = true → rd c n p = 0 → decB c (rd c n) p = false := fun p hp h0 => by
    have h := hs p hp
    rw [rd, if_neg (by omega)] at h
    cases e : decB c (rd c n) p
    · rfl
    · rw [e] at h; simp at h; omega
  intro p hp k
  constructor
  · intro h
    obtain ⟨h1, h2, h3⟩ := rd_when n h
    unfold Cnd
    rcases (decB_spec hc hp).mp h3 with ⟨a, b, m, e⟩ | e
    · obtain ⟨r1, r2⟩ := rd_won hc hp h2 m e
      rw [if_neg (by omega)]
      obtain ⟨j, rfl⟩ : ∃ j, k = j + 1 := ⟨k - 1, by omega⟩
      refine ⟨⟨a, b, m, rd_eq r2 (by omega)⟩, fun a' b' m' i i1 i2 i3 => ?_⟩
      have := (rd_won hc hp h2 m' (by rw [rd_eq i3 (show i < j + 1 by omega)]; omega)).2
      rw [rd_eq i3 (show i < j + 1 by omega)] at this
      omega
    · obtain ⟨r1, r2⟩ := rd_lost hc hp h2 e
      rw [if_pos r1]
      refine ⟨fun a b m => ?_, ?_⟩
      · obtain ⟨e1, e2⟩ := e a b m
        obtain ⟨j, hj⟩ : ∃ j, rd c k (sh p a b) = j + 1 := ⟨rd c k (sh p a b) - 1, by omega⟩
        have jl := (rd_when _ hj).1
        exact ⟨j, jl, by omega, rd_eq hj (by omega)⟩
      · rcases r2 with r2 | ⟨a, b, m, r2⟩
        · exact Or.inl r2
        · rcases Nat.eq_zero_or_pos k with k0 | k0
          · exact Or.inl k0
          · obtain ⟨j, rfl⟩ : ∃ j, k = j + 1 := ⟨k - 1, by omega⟩
            exact Or.inr ⟨a, b, m, rd_eq r2 (by omega)⟩
  · intro h
    have hz : rd c n p ≠ 0 := by
      intro h0
      have h9 := hd p hp h0
      have h8 : decB c (rd c n) p = true := by
        unfold Cnd at h
        by_cases e : k % 2 = 0
        · rw [if_pos e] at h
          refine (decB_spec hc hp).mpr (Or.inr fun a b m => ?_)
          obtain ⟨j, j1, j2, j3⟩ := h.1 a b m
          omega
        · rw [if_neg e] at h
          obtain ⟨⟨a, b, m, e1⟩, -⟩ := h
          exact (decB_spec hc hp).mpr (Or.inl ⟨a, b, m, by omega⟩)
      rw [h8] at h9; cases h9
    obtain ⟨i, hi⟩ : ∃ i, rd c n p = i + 1 := ⟨rd c n p - 1, by omega⟩
    obtain ⟨h1, h2, h3⟩ := rd_when n hi
    rw [hi]
    congr 1
    unfold Cnd at h
    rcases (decB_spec hc hp).mp h3 with ⟨a, b, m, e⟩ | e
    · obtain ⟨r1, r2⟩ := rd_won hc hp h2 m e
      obtain ⟨i', rfl⟩ : ∃ j, i = j + 1 := ⟨i - 1, by omega⟩
      have v1 : rd c n (sh p a b) = i' + 1 := rd_eq r2 (by omega)
      by_cases ek : k % 2 = 0
      · rw [if_pos ek] at h
        obtain ⟨j, j1, j2, j3⟩ := h.1 a b m
        omega
      · rw [if_neg ek] at h
        obtain ⟨⟨a', b', m', w1⟩, w2⟩ := h
        have x1 : ¬ i' + 1 < k := fun q => w2 a b m i' (by omega) q v1
        obtain ⟨k', rfl⟩ : ∃ j, k = j + 1 := ⟨k - 1, by omega⟩
        rcases Nat.lt_or_ge k' (i' + 1) with q | q
        · have := (rd_won hc hp h2 m' (by rw [rd_eq w1 (show k' < i' + 1 from q)]; omega)).2
          rw [rd_eq w1 (show k' < i' + 1 from q)] at this
          omega
        · omega
    · obtain ⟨r1, r2⟩ := rd_lost hc hp h2 e
      by_cases ek : k % 2 = 0
      · rw [if_pos ek] at h
        have up : k ≤ i := by
          rcases h.2 with k0 | ⟨a, b, m, w⟩
          · omega
          · obtain ⟨e1, e2⟩ := e a b m
            obtain ⟨j, hj⟩ : ∃ j, rd c i (sh p a b) = j + 1 := ⟨rd c i (sh p a b) - 1, by omega⟩
            have jl := (rd_when _ hj).1
            rw [rd_eq hj (show j < n by omega)] at w
            omega
        have lo : i ≤ k := by
          rcases r2 with r2 | ⟨a, b, m, r2⟩
          · omega
          · obtain ⟨j, j1, j2, j3⟩ := h.1 a b m
            rcases Nat.eq_zero_or_pos i with i0 | i0
            · omega
            · obtain ⟨i', rfl⟩ : ∃ j, i = j + 1 := ⟨i - 1, by omega⟩
              rw [rd_eq r2 (show i' < n by omega)] at j3
              omega
        omega
      · rw [if_neg ek] at h
        obtain ⟨⟨a, b, m, w⟩, -⟩ := h
        obtain ⟨e1, e2⟩ := e a b m
        obtain ⟨j, hj⟩ : ∃ j, rd c i (sh p a b) = j + 1 := ⟨rd c i (sh p a b) - 1, by omega⟩
        have jl := (rd_when _ hj).1
        rw [rd_eq hj (show j < n by omega)] at w
        rw [hj] at e2
        omega
