/-! ROWS READ AND WRITTEN; THE BEST MOVE of the class -/
theorem s_at {u : MU} {k i N : Nat} (hN : zln k = N) (hi : i < N) (hN2 : N < 2 ^ 31) {Q : Int32 → Prop} (h : Q (u k i)) : w_X9_at k u (nI i) Q := by
  unfold w_X9_at
  rw [hN]
  refine ⟨fun h1 => absurd h1 (nI_pos (by omega)), fun _ => ⟨fun _ => ⟨vp_in_nI hi hN2, ?_⟩, fun h2 => absurd (nI_lt hi hN2) h2⟩⟩
  rw [nI_clamp (by omega)]
  exact h
theorem s_put {u : MU} {k i N : Nat} (hN : zln k = N) (hi : i < N) (hN2 : N < 2 ^ 31) {x : Int32} {Q : MU → Prop} (h : Q (u2 u k i x)) : w_X9_put k (nI i) x u Q := by
  unfold w_X9_put
  rw [hN]
  refine ⟨fun h1 => absurd h1 (nI_pos (by omega)), fun _ => ⟨fun h2 => absurd h2 (nI_ge hi hN2), fun _ => ⟨vp_in_nI hi hN2, fun u4 h4 => ?_⟩⟩⟩
  rw [nI_clamp (by omega)] at h4
  rw [h4]
  exact h
theorem s_from {k : Nat} (hk : k < 64) {Q : Int32 → Prop} (h : Q (nI (k / 8))) : w_X9_fromOf (nI k) Q := by
  unfold w_X9_fromOf
  rw [show nI k / 8 = nI (k / 8) from pk_div (d := 8) (by omega) (by decide) (by decide)]
  exact h
theorem s_to {k : Nat} (hk : k < 64) {Q : Int32 → Prop} (h : Q (nI (k % 8))) : w_X9_toOf (nI k) Q := by
  unfold w_X9_toOf
  rw [show nI k - nI k / 8 * 8 = nI (k % 8) from pk_rem (d := 8) (by omega) (by decide) (by decide)]
  exact h
/-- the moves of a position in their order, as numbers 8 * from + to -/
def mvs (c : Cfg) (p : Nat) : List Nat := bl (Mv c p) 64 0
def wbs (c : Cfg) (p : Nat) : List Nat := bl (Wb c p) 64 0
theorem mvs_mem {c : Cfg} {p k : Nat} : k ∈ mvs c p ↔ k < 64 ∧ mvB c p (k / 8) (k % 8) = true := by
  unfold mvs
  rw [bl_mem]
  unfold Mv
  rw [bits_test]
  constructor
  · rintro ⟨-, h2, h3⟩
    rw [Nat.zero_add] at h2
    rw [decide_eq_true h2, Bool.true_and] at h3
    exact ⟨h2, h3⟩
  · rintro ⟨h2, h3⟩
    rw [decide_eq_true h2, Bool.true_and, Nat.zero_add]
    exact ⟨Nat.zero_le _, h2, h3⟩
theorem wbs_mem {c : Cfg} {p k : Nat} : k ∈ wbs c p ↔ k < 64 ∧ wbB c p (k / 8) (k % 8) = true := by
  unfold wbs
  rw [bl_mem]
  unfold Wb
  rw [bits_test]
  constructor
  · rintro ⟨-, h2, h3⟩
    rw [Nat.zero_add] at h2
    rw [decide_eq_true h2, Bool.true_and] at h3
    exact ⟨h2, h3⟩
  · rintro ⟨h2, h3⟩
    rw [decide_eq_true h2, Bool.true_and, Nat.zero_add]
    exact ⟨Nat.zero_le _, h2, h3⟩
theorem mvs_le {c : Cfg} {p : Nat} : (mvs c p).length ≤ 64 := by
  unfold mvs
  rw [bl_ct]
  exact fb_ct_le _ 64
theorem wbs_le {c : Cfg} {p : Nat} : (wbs c p).length ≤ 64 := by
  unfold wbs
  rw [bl_ct]
  exact fb_ct_le _ 64
/-- a number of moves as the class keeps it: 0 stands for -1 -/
def nv (v : Nat) : Int32 := nI v - 1
theorem nv_inj {a b : Nat} (ha : a < 2 ^ 31) (hb : b < 2 ^ 31) : nv a = nv b ↔ a = b := by
  unfold nv
  constructor
  · intro h
    have e : nI a - 1 + 1 = nI b - 1 + 1 := by rw [h]
    rw [Int32.sub_add_cancel, Int32.sub_add_cancel] at e
    exact (nI_eq ha hb).mp e
  · intro h; rw [h]
theorem nv_0 : nv 0 = -1 := by decide +kernel
theorem nv_s (k : Nat) : nv (k + 1) = nI k := nI_pred k
def bestK (c : Cfg) (f : Nat → Nat) (p : Nat) : Option Nat := (mvs c p).find? fun k => decide (f (sh p (k / 8) (k % 8)) = f p - 1)
def optI (o : Option Nat) : Int32 := match o with
  | none => -1
  | some k => nI k
/-- the numbers of a table (object k) are f -/
def TIs (u : MU) (k : Nat) (c : Cfg) (f : Nat → Nat) : Prop := ∀ q, posB c q = true → u (k + 3) q = nv (f q)
theorem s_bestMove {u : MU} {k k1 : Nat} {c : Cfg} (hc : CfgOk c) (hF : FIs u k1 c) (hk : zkd k = 9) {f : Nat → Nat} (hT : TIs u k c f) (hf : ∀ q, f q < 2 ^ 30) {p : Nat} (hp : posB c p = true) {Q : Int32 → Prop} (h : Q (optI (bestK c f p))) : w_X7_bestMove k k1 u (nI p) Q := by
  have hp2 := (posB_spec.mp hp).1
  have hz : zln (k + 3) = 1296 := zl9_3 hk
  have inner : wb_X7_bestMove_21 k k1 u Q (nI p) (nv (f p - 1)) := by
    unfold wb_X7_bestMove_21
    refine s_movesOf hc hF hp (s_bitCountL (Mv_lt c p) ?_)
    -- the loop: what is left are the last of the moves
    have loop : ∀ (n i x : Nat) (l : List Nat), x < 2 ^ 64 → bl x 64 0 = l → (∀ j ∈ l, j ∈ mvs c p) → i + l.length = ctb (Mv c p) 64 → l.length = n → Q (optI (l.find? fun k => decide (f (sh p (k / 8) (k % 8)) = f p - 1))) → wl_X7_bestMove_40 k k1 u Q (n + 1) (nI p) (nv (f p - 1)) (lN x) (nI (ctb (Mv c p) 64)) (nI i) := by
      intro n
      have hct : ctb (Mv c p) 64 ≤ 64 := fb_ct_le _ 64
      induction n with
      | zero =>
        intro i x l hx hl hm hi hn hq
        rw [List.length_eq_zero_iff.mp hn] at hq hi
        rw [wl_X7_bestMove_40]
        rw [show ctb (Mv c p) 64 = i from by rw [← hi]; rfl]
        exact ⟨fun _ => hq, fun q => absurd (nI_le (Nat.le_refl i) (by rw [← hi] at hct; exact Nat.lt_of_le_of_lt (Nat.le_add_right _ _) (Nat.lt_of_le_of_lt hct (by decide)))) q⟩
      | succ n ih =>
        intro i x l hx hl hm hi hn hq
        cases l with
        | nil => cases hn
        | cons j t =>
          obtain ⟨b1, b2, b3, b4, b5⟩ := bl_step hx hl
          rw [List.length_cons] at hi hn
          rw [wl_X7_bestMove_40]
          refine ⟨fun q => absurd q (nI_ge (by omega) (by omega)), fun _ => s_firstMove hx b3 b4 (s_withoutFirst b2 (s_from b1 (s_to b1 (s_shifted hp2 (by omega) (by omega) ?_))))⟩
          have hj := mvs_mem.mp (hm j List.mem_cons_self)
          have hpos := (mv_wb hc hp hj.2).1
          have hs := (posB_spec.mp hpos).1
          refine s_at hz hs (by decide) ?_
          rw [hT _ hpos]
          rw [List.find?_cons] at hq
          refine ⟨fun q i' hi' => ?_, fun q => ?_⟩
          · have e : decide (f (sh p (j / 8) (j % 8)) = f p - 1) = false := decide_eq_false (fun z => q (by rw [z]))
            rw [e] at hq
            rw [hi', nI_1]
            exact ih (i + 1) (rest1 x) t (rest1_lt hx) b5 (fun z hz => hm z (List.mem_cons_of_mem _ hz)) (by omega) (by omega) hq
          · have h1 := hf (sh p (j / 8) (j % 8))
            have h2 := hf p
            have e : decide (f (sh p (j / 8) (j % 8)) = f p - 1) = true := decide_eq_true ((nv_inj (by omega) (by omega)).mp q)
            rw [e] at hq
            exact hq
    exact ⟨_, loop (mvs c p).length 0 (Mv c p) (mvs c p) (Mv_lt c p) rfl (fun _ hj => hj) (by rw [Nat.zero_add]; exact bl_ct _) rfl h⟩
  unfold w_X7_bestMove
  refine s_at hz hp2 (by decide) ?_
  rw [hT p hp]
  have h2 := hf p
  refine ⟨fun q => ?_, fun q => ?_⟩
  · rcases Nat.eq_zero_or_pos (f p) with e | e
    · rw [e] at q; exact absurd nv_0 q
    · obtain ⟨m, hm⟩ : ∃ m, f p = m + 1 := ⟨f p - 1, by omega⟩
      rw [hm] at inner ⊢
      rw [nv_s]
      exact inner
  · have e : f p = 0 := (nv_inj (by omega) (by decide)).mp (q.trans nv_0.symm)
    rw [e] at inner
    rw [← nv_0]
    exact inner
