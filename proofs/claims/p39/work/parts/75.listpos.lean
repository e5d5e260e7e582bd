/-! the class lists the positions -/
/-- row k shows the list l from its start; nothing but that row has changed -/
def RowL (u : MU) (k : Nat) (l : List Nat) : Prop := ∀ i q, l[i]? = some q → u k i = nI q
def OnlyR (k : Nat) (u u' : MU) : Prop := ∀ a, a ≠ k → u' a = u a
theorem OnlyR.rf (k : Nat) (u : MU) : OnlyR k u u := fun _ _ => rfl
theorem OnlyR.tr {k : Nat} {u u' u'' : MU} (h1 : OnlyR k u u') (h2 : OnlyR k u' u'') : OnlyR k u u'' := fun a h => (h2 a h).trans (h1 a h)
theorem OnlyR_FIs {k k0 : Nat} {u u' : MU} {c : Cfg} (h : OnlyR k u u') (h0 : k0 ≠ k) (h3 : k0 + 3 ≠ k) (hF : FIs u k0 c) : FIs u' k0 c := by
  unfold FIs
  rw [h k0 h0, h (k0 + 3) h3]
  exact hF
theorem RowL_push {u : MU} {k q : Nat} {l : List Nat} (h : RowL u k l) : RowL (u2 u k l.length (nI q)) k (l ++ [q]) := fun i x hx => by
  rcases Nat.lt_or_ge i l.length with z | z
  · rw [List.getElem?_append_left z] at hx
    rw [u2_o (Or.inr (by omega))]
    exact h i x hx
  · have : i = l.length := by
      have := (List.getElem?_eq_some_iff.mp hx).1
      rw [List.length_append, List.length_singleton] at this
      omega
    subst this
    rw [List.getElem?_append_right (Nat.le_refl _), Nat.sub_self] at hx
    cases hx
    exact u2_at
theorem OnlyR_u2 {u : MU} {k j : Nat} {x : Int32} : OnlyR k u (u2 u k j x) := fun _ h => u2_ne h
theorem s_lpS {c : Cfg} (hc : CfgOk c) {k k1 : Nat} {u0 : MU} (hF : FIs u0 k c) (hk0 : k ≠ k1) (hk3 : k + 3 ≠ k1) (hz : zln k1 = 336) {f a : Nat} (hf : f < c.n) (ha : a < c.n) {L4 : Int32 → Int32 → MU → Prop} {L15 : Int32 → Int32 → Int32 → MU → Prop} {Q : Int32 → MU → Prop} :
    ∀ (n s : Nat) (l : List Nat) (u : MU), s + n = c.n + 1 → OnlyR k1 u0 u → RowL u k1 l → (l ++ lpS c f a n s).length ≤ 336 → (∀ u', OnlyR k1 u0 u' → RowL u' k1 (l ++ lpS c f a n s) → L15 (nI (l ++ lpS c f a n s).length) (nI f) (nI (a + 1)) u') → wl_X1_listPositions_27 L4 L15 k k1 Q (n + 1) (nI l.length) (nI f) (nI a) (nI s - 1) u := by
  have hn := hc.hn
  intro n
  induction n with
  | zero =>
    intro s l u hs ho hl hlen hq
    have hFu := OnlyR_FIs ho hk0 hk3 hF
    rw [wl_X1_listPositions_27]
    rw [lpS, List.append_nil] at hq
    refine ⟨fun _ x hx => ?_, fun q => absurd ?_ q⟩
    · rw [hx, nI_1]; exact hq u ho hl
    · rw [hFu.1, show s = c.n + 1 by omega, nI_pred]; exact nI_le (Nat.le_refl _) (by omega)
  | succ n ih =>
    intro s l u hs ho hl hlen hq
    have hFu := OnlyR_FIs ho hk0 hk3 hF
    rw [wl_X1_listPositions_27]
    have nx : nI s - 1 + 1 = nI (s + 1) - 1 := by rw [Int32.sub_add_cancel, nI_pred]
    refine ⟨fun q => absurd q ?_, fun _ => s_fits hc hFu ?_⟩
    · rw [hFu.1]
      rcases Nat.eq_zero_or_pos s with z | z
      · rw [z, show nI 0 - 1 = (-1 : Int32) by decide +kernel]; exact (fa_of_lt (fa_trans m1_lt (nI_pos' (show c.n < 2 ^ 31 by omega)))).2.1
      · rw [nI_pr z]; exact nI_ge (by omega) (by omega)
    · rw [fitsI_nI hc (by omega) (by omega) (by omega)]
      refine bI_br (fun e => ?_) (fun e => s_num (t := 0) ?_)
      · intro x hx
        rw [hx, nx]
        rw [lpS, if_neg (by rw [e]; exact Bool.false_ne_true)] at hlen hq
        exact ih (s + 1) l u (by omega) ho hl hlen hq
      · rw [lpS, if_pos e] at hlen hq
        have hl2 : l.length + 2 ≤ 336 := by rw [List.length_append, List.length_cons, List.length_cons] at hlen; omega
        refine s_put hz (by omega) (by decide) (s_num (t := 1) ?_)
        rw [nI_1]
        refine s_put hz (by omega) (by decide) (fun x hx y hy => ?_)
        rw [hx, hy, nx, show (2 : Int32) = nI 2 from rfl, nI_add]
        have r1 := RowL_push (q := pnum f a s 0) hl
        have r2 := RowL_push (q := pnum f a s 1) r1
        rw [List.length_append, List.length_singleton] at r2
        have e2 : l ++ pnum f a s 0 :: pnum f a s 1 :: lpS c f a n (s + 1) = ((l ++ [pnum f a s 0]) ++ [pnum f a s 1]) ++ lpS c f a n (s + 1) := by simp
        rw [e2] at hlen hq
        have := ih (s + 1) ((l ++ [pnum f a s 0]) ++ [pnum f a s 1]) _ (by omega) ((ho.tr OnlyR_u2).tr OnlyR_u2) r2 hlen hq
        rw [List.length_append, List.length_append, List.length_singleton, List.length_singleton] at this
        exact this
