/-! bestPlace tells the place of the class's best move -/
theorem find_at {α : Type} {P : α → Bool} : ∀ (l : List α) (b : Nat) (k : α), l[b]? = some k → P k = true → (∀ (j : Nat) (x : α), j < b → l[j]? = some x → P x = false) → l.find? P = some k
  | [], b, k, h, _, _ => by simp at h
  | a :: t, 0, k, h, hk, _ => by
    simp only [List.getElem?_cons_zero, Option.some.injEq] at h
    subst h
    rw [List.find?_cons, hk]
  | a :: t, b + 1, k, h, hk, hj => by
    have h0 := hj 0 a (by omega) rfl
    rw [List.find?_cons, h0]
    exact find_at t b k h hk (fun j x h1 h2 => hj (j + 1) x (by omega) h2)
/-- B tells the place of the best move, or that there is none -/
def BPl (c : Cfg) (f : Nat → Nat) (p : Nat) (B : Option (Nat × Nat)) : Prop := match B with
  | none => bestK c f p = none
  | some (b, _) => ∃ k, (mvs c p)[b]? = some k ∧ bestK c f p = some k
theorem best_is {c : Cfg} (hc : CfgOk c) {f : Nat → Nat} (hf : Sol c f) {p : Nat} (hp : posB c p = true) {B : Option (Nat × Nat)} (h : BInv (f p) ((mvs c p).map fun k => f (sh p (k / 8) (k % 8))) B) : BPl c f p B := by
  have val : ∀ (j k : Nat), (mvs c p)[j]? = some k → ((mvs c p).map fun k => f (sh p (k / 8) (k % 8)))[j]? = some (f (sh p (k / 8) (k % 8))) := fun j k hk => by rw [List.getElem?_map, hk]; rfl
  have mvk : ∀ (j k : Nat), (mvs c p)[j]? = some k → mvB c p (k / 8) (k % 8) = true := fun j k hk => (mvs_mem.mp (List.mem_of_getElem? hk)).2
  have hm8' : ∀ a b' : Nat, mvB c p a b' = true → a < 8 ∧ b' < 8 := fun a b' m => by obtain ⟨-, -, -, -, ha, hb⟩ := mv_wb hc hp m; exact ⟨ha, hb⟩
  have rate : ∀ (j k : Nat), (mvs c p)[j]? = some k → f (sh p (k / 8) (k % 8)) = f p - 1 → isB (f p) (f (sh p (k / 8) (k % 8))) = true := fun j k hk e => by
    have m := mvk j k hk
    unfold isB
    by_cases h0 : f p = 0
    · rw [if_pos h0]; exact decide_eq_true (by omega)
    · rw [if_neg h0]
      by_cases h1 : f p % 2 = 0
      · rw [if_pos h1]; exact decide_eq_true (by omega)
      · rw [if_neg h1]
        have := (Sol_lost hf hp (by omega)).1 _ _ m
        rw [Bool.and_eq_true, decide_eq_true_eq, decide_eq_true_eq]
        exact ⟨this.1, this.2.1⟩
  cases B with
  | none =>
    show bestK c f p = none
    unfold bestK
    rw [List.find?_eq_none]
    intro k hk q
    obtain ⟨j, hj⟩ := List.getElem?_of_mem hk
    have := rate j k hj (of_decide_eq_true q)
    rw [h j _ (val j k hj)] at this
    cases this
  | some z =>
    obtain ⟨b, y⟩ := z
    obtain ⟨h1, h2, h3, h4⟩ := h
    rw [List.getElem?_map] at h1
    cases hk : (mvs c p)[b]? with
    | none => rw [hk] at h1; cases h1
    | some k =>
      rw [hk] at h1
      have hy : f (sh p (k / 8) (k % 8)) = y := Option.some.inj h1
      have place : ∀ a b' : Nat, a < 8 → b' < 8 → mvB c p a b' = true → ∃ j k' : Nat, (mvs c p)[j]? = some k' ∧ k' / 8 = a ∧ k' % 8 = b' := fun a b' ha hb m => by
        have e1 : (8 * a + b') / 8 = a := by omega
        have e2 : (8 * a + b') % 8 = b' := by omega
        obtain ⟨j, hj⟩ := List.getElem?_of_mem (mvs_mem.mpr ⟨show 8 * a + b' < 64 by omega, by rw [e1, e2]; exact m⟩ : 8 * a + b' ∈ mvs c p)
        exact ⟨j, _, hj, e1, e2⟩
      have m := mvk b k hk
      have hyv : y = f p - 1 := by
        by_cases h0 : f p = 0
        · unfold isB at h2; rw [if_pos h0] at h2
          have := of_decide_eq_true h2
          omega
        · by_cases e : f p % 2 = 0
          · obtain ⟨⟨a, b', m', v'⟩, lo⟩ := Sol_won hf hp h0 e
            have hodd : y % 2 = 1 := by unfold isB at h2; rw [if_neg h0, if_pos e] at h2; exact of_decide_eq_true h2
            have l1 := lo _ _ m (by rw [hy]; exact hodd)
            have hm8 : a < 8 ∧ b' < 8 := hm8' a b' m'
            obtain ⟨j, k', hj, q1, q2⟩ := place a b' hm8.1 hm8.2 m'
            have hv : f (sh p (k' / 8) (k' % 8)) = f p - 1 := by rw [q1, q2]; exact v'
            have := (h4 j _ (val j k' hj) (rate j k' hj hv)).1 h0 e
            omega
          · obtain ⟨al, ex⟩ := Sol_lost hf hp (by omega)
            have u1 := al _ _ m
            rw [hy] at u1
            rcases ex with z | ⟨a, b', m', v'⟩
            · omega
            · have hm8 : a < 8 ∧ b' < 8 := hm8' a b' m'
              obtain ⟨j, k', hj, q1, q2⟩ := place a b' hm8.1 hm8.2 m'
              have hv : f (sh p (k' / 8) (k' % 8)) = f p - 1 := by rw [q1, q2]; exact v'
              have := (h4 j _ (val j k' hj) (rate j k' hj hv)).2 (by omega)
              omega
      refine ⟨k, hk, ?_⟩
      unfold bestK
      refine find_at _ b k hk (decide_eq_true (by omega)) (fun j x hj hx => decide_eq_false (fun q => ?_))
      have r := rate j x hx q
      obtain ⟨t1, t2, t3⟩ := h3 j _ hj (val j x hx) r
      rcases Nat.mod_two_eq_zero_or_one (f p) with z | z
      · have := t2 z; omega
      · have := t3 z; omega
theorem r_bestPlace {c : Cfg} (hc : CfgOk c) {f : Nat → Nat} (hf : Sol c f) (hfb : ∀ q, f q < 2 ^ 20) {p : Nat} (hp : posB c p = true) {v : MU} (hR : RIs v c) (hN : RNear v c) (hS : SIs v c f) {Q : Int32 → MU → Prop} (hq : ∀ v' B, FR v v' → MLs v' (mvs c p) → BPl c f p B → Q (bInt B) v') : w_X10_bestPlace (nI p) v Q := by
  unfold w_X10_bestPlace
  refine r_finds hc hR hN hp (fun v' f' l' => ⟨(mvs c p).length + 1, ?_⟩)
  have inv := BInv_fold (fp := f p) ((mvs c p).map fun k => f (sh p (k / 8) (k % 8))) [] none (fun j w h => by simp at h)
  have L := r_best_loop hc hfb hp (OIs.FR f' hS) l' (Q := Q) (hq v' _ f' l' (best_is hc hf hp inv)) (mvs c p) [] none rfl (fun b y h => by cases h) rfl
  exact L
