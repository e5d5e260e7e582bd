/-! THE CLASS'S TABLE ASKED -/
theorem s_inMoves {u : MU} {k : Nat} {c : Cfg} (hk : zkd k = 9) {f : Nat → Nat} (hT : TIs u k c f) {p : Nat} (hp : posB c p = true) {Q : Int32 → Prop} (h : Q (nv (f p))) : w_X7_inMoves k u (nI p) Q := by
  unfold w_X7_inMoves
  refine s_at (zl9_3 hk) (posB_spec.mp hp).1 (by decide) ?_
  rw [hT p hp]
  exact h
theorem s_outcomeOf {u : MU} {k : Nat} {c : Cfg} (hk : zkd k = 9) {f : Nat → Nat} (hT : TIs u k c f) (hf : ∀ q, f q < 2 ^ 30) {p : Nat} (hp : posB c p = true) {Q : Int32 → Prop} (h : Q (outI (f p))) : w_X7_outcomeOf k u (nI p) Q := by
  unfold w_X7_outcomeOf
  refine s_at (zl9_3 hk) (posB_spec.mp hp).1 (by decide) ?_
  rw [hT p hp]
  have hb := hf p
  rcases Nat.eq_zero_or_pos (f p) with h0 | h0
  · rw [h0] at h ⊢
    exact ⟨fun q => absurd q (by decide +kernel), fun _ => h⟩
  · obtain ⟨j, hj⟩ : ∃ j, f p = j + 1 := ⟨f p - 1, by omega⟩
    rw [hj] at h hb ⊢
    rw [nv_s, show nI j - nI j / 2 * 2 = nI (j % 2) from pk_rem (d := 2) (by omega) (by decide) (by decide)]
    refine ⟨fun _ => ?_, fun q => absurd (nI_pos' (by omega)) q⟩
    rcases Nat.mod_two_eq_zero_or_one j with z | z
    · rw [z]
      refine ⟨fun q => absurd rfl q, fun _ => ?_⟩
      rw [(outI_2 (j + 1)).mpr (by omega)] at h
      exact h
    · rw [z]
      refine ⟨fun _ => ?_, fun q => absurd q (by decide +kernel)⟩
      rw [(outI_1 (j + 1)).mpr ⟨by omega, by omega⟩] at h
      exact h
/-- whether p is won for the fox, by its value -/
def foxW (p w : Nat) : Bool := decide (outI w = if tu p = 0 then 1 else 2)
theorem s_isFoxWinning {u : MU} {k : Nat} {c : Cfg} (hk : zkd k = 9) {f : Nat → Nat} (hT : TIs u k c f) (hf : ∀ q, f q < 2 ^ 30) {p : Nat} (hp : posB c p = true) {Q : Int32 → Prop} (h : Q (bI (foxW p (f p)))) : w_X7_isFoxWinning k u (nI p) Q := by
  unfold w_X7_isFoxWinning wb_X7_isFoxWinning_17
  unfold foxW at h
  refine s_outcomeOf hk hT hf hp (s_tu (posB_spec.mp hp).1 ?_)
  rcases (show tu p = 0 ∨ tu p = 1 by have := tu_lt p; omega) with ht | ht
  · rw [if_pos ht] at h
    rw [ht]
    refine ⟨fun q => absurd rfl q, fun _ => ⟨fun q => ?_, fun q => ?_⟩⟩
    · rw [decide_eq_false q] at h; exact h
    · rw [decide_eq_true q] at h; exact h
  · rw [if_neg (by omega)] at h
    rw [ht]
    refine ⟨fun _ => ⟨fun q => ?_, fun q => ?_⟩, fun q => absurd q (by decide +kernel)⟩
    · rw [decide_eq_false q] at h; exact h
    · rw [decide_eq_true q] at h; exact h
