/-! listPositions whole -/
theorem s_lpA {c : Cfg} (hc : CfgOk c) {k k1 : Nat} {u0 : MU} (hF : FIs u0 k c) (hk0 : k ≠ k1) (hk3 : k + 3 ≠ k1) (hz : zln k1 = 336) {f : Nat} (hf : f < c.n) {L4 : Int32 → Int32 → MU → Prop} {Q : Int32 → MU → Prop} :
    ∀ (n a : Nat) (l : List Nat) (u : MU), a + n = c.n → OnlyR k1 u0 u → RowL u k1 l → (l ++ lpA c f n a).length ≤ 336 → (∀ u', OnlyR k1 u0 u' → RowL u' k1 (l ++ lpA c f n a) → L4 (nI (l ++ lpA c f n a).length) (nI (f + 1)) u') → wl_X1_listPositions_15 L4 k k1 Q (n + 1) (nI l.length) (nI f) (nI a) u := by
  have hn := hc.hn
  intro n
  induction n with
  | zero =>
    intro a l u hs ho hl hlen hq
    have hFu := OnlyR_FIs ho hk0 hk3 hF
    rw [wl_X1_listPositions_15]
    rw [lpA, List.append_nil] at hq
    refine ⟨fun _ x hx => ?_, fun q => absurd ?_ q⟩
    · rw [hx, nI_1]; exact hq u ho hl
    · rw [hFu.1, ← hs]; exact nI_le (Nat.le_refl _) (by omega)
  | succ n ih =>
    intro a l u hs ho hl hlen hq
    have hFu := OnlyR_FIs ho hk0 hk3 hF
    rw [wl_X1_listPositions_15]
    rw [lpA, ← List.append_assoc] at hlen hq
    refine ⟨fun q => absurd q (by rw [hFu.1]; exact nI_ge (by omega) (by omega)), fun _ => ⟨c.n + 1 + 1, ?_⟩⟩
    rw [show (-1 : Int32) = nI 0 - 1 by decide +kernel]
    refine s_lpS hc hF hk0 hk3 hz hf (by omega) (c.n + 1) 0 l u (by omega) ho hl (by rw [List.length_append] at hlen; omega) (fun u' ho' hl' => ?_)
    exact ih (a + 1) _ u' (by omega) ho' hl' hlen hq
theorem s_lpF {c : Cfg} (hc : CfgOk c) {k k1 : Nat} {u0 : MU} (hF : FIs u0 k c) (hk0 : k ≠ k1) (hk3 : k + 3 ≠ k1) (hz : zln k1 = 336) {Q : Int32 → MU → Prop} :
    ∀ (n f : Nat) (l : List Nat) (u : MU), f + n = c.n → OnlyR k1 u0 u → RowL u k1 l → (l ++ lpF c n f).length ≤ 336 → (∀ u', OnlyR k1 u0 u' → RowL u' k1 (l ++ lpF c n f) → Q (nI (l ++ lpF c n f).length) u') → wl_X1_listPositions_4 k k1 Q (n + 1) (nI l.length) (nI f) u := by
  have hn := hc.hn
  intro n
  induction n with
  | zero =>
    intro f l u hs ho hl hlen hq
    have hFu := OnlyR_FIs ho hk0 hk3 hF
    rw [wl_X1_listPositions_4]
    rw [lpF, List.append_nil] at hq
    refine ⟨fun _ => hq u ho hl, fun q => absurd ?_ q⟩
    rw [hFu.1, ← hs]; exact nI_le (Nat.le_refl _) (by omega)
  | succ n ih =>
    intro f l u hs ho hl hlen hq
    have hFu := OnlyR_FIs ho hk0 hk3 hF
    rw [wl_X1_listPositions_4]
    rw [lpF, ← List.append_assoc] at hlen hq
    refine ⟨fun q => absurd q (by rw [hFu.1]; exact nI_ge (by omega) (by omega)), fun _ => ⟨c.n + 1, ?_⟩⟩
    refine s_lpA hc hF hk0 hk3 hz (by omega) c.n 0 l u (by omega) ho hl (by rw [List.length_append] at hlen; omega) (fun u' ho' hl' => ?_)
    exact ih (f + 1) _ u' (by omega) ho' hl' hlen hq
theorem s_listPositions {c : Cfg} (hc : CfgOk c) {k k1 : Nat} {u : MU} (hF : FIs u k c) (hk0 : k ≠ k1) (hk3 : k + 3 ≠ k1) (hz : zln k1 = 336) {Q : Int32 → MU → Prop} (hq : ∀ u', OnlyR k1 u u' → RowL u' k1 (lp c) → Q (nI (lp c).length) u') : w_X1_listPositions k k1 u Q := by
  unfold w_X1_listPositions
  exact ⟨c.n + 1, s_lpF hc hF hk0 hk3 hz c.n 0 [] u (by omega) (OnlyR.rf k1 u) (fun i q h => by simp at h) (lp_len hc) hq⟩
