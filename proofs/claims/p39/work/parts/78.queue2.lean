/-! THE QUEUE: lists, one way looked at -/
def updN (f : Nat → Nat) (q x : Nat) : Nat → Nat := fun a => if a = q then x else f a
theorem updN_at {f : Nat → Nat} {q x : Nat} : updN f q x q = x := if_pos rfl
theorem updN_ne {f : Nat → Nat} {q x a : Nat} (h : a ≠ q) : updN f q x a = f a := if_neg h
theorem take_le {f : Nat → Nat} : ∀ (T : List Nat) (i p x : Nat), T.Pairwise (fun x y => f x ≤ f y) → T[i]? = some p → x ∈ T.take i → f x ≤ f p
  | [], i, p, x, _, h, _ => by simp at h
  | a :: t, 0, p, x, _, _, h => by simp at h
  | a :: t, i + 1, p, x, hw, h, hx => by
    rw [List.getElem?_cons_succ] at h
    rw [List.take_succ_cons, List.mem_cons] at hx
    obtain ⟨h1, h2⟩ := List.pairwise_cons.mp hw
    rcases hx with e | e
    · rw [e]; exact h1 p (List.mem_of_getElem? h)
    · exact take_le t i p x h2 h e
theorem take_ge {f : Nat → Nat} : ∀ (T : List Nat) (i p x : Nat), T.Pairwise (fun x y => f x ≤ f y) → T[i]? = some p → x ∈ T → x ∉ T.take i → f p ≤ f x
  | [], i, p, x, _, h, _, _ => by simp at h
  | a :: t, 0, p, x, hw, h, hx, _ => by
    rw [List.getElem?_cons_zero] at h
    cases h
    rcases List.mem_cons.mp hx with e | e
    · rw [e]; exact Nat.le_refl _
    · exact (List.pairwise_cons.mp hw).1 x e
  | a :: t, i + 1, p, x, hw, h, hx, hn => by
    rw [List.getElem?_cons_succ] at h
    rw [List.take_succ_cons, List.mem_cons] at hn
    rcases List.mem_cons.mp hx with e | e
    · exact absurd (Or.inl e) hn
    · exact take_ge t i p x (List.pairwise_cons.mp hw).2 h e (fun z => hn (Or.inr z))
theorem take_not : ∀ (T : List Nat) (i p : Nat), T.Nodup → T[i]? = some p → p ∉ T.take i
  | [], i, p, _, h => by simp at h
  | a :: t, 0, p, _, _ => by simp
  | a :: t, i + 1, p, hn, h => by
    rw [List.getElem?_cons_succ] at h
    obtain ⟨h1, h2⟩ := List.nodup_cons.mp hn
    rw [List.take_succ_cons, List.mem_cons]
    rintro (e | e)
    · exact h1 (by rw [← e]; exact List.mem_of_getElem? h)
    · exact take_not t i p h2 h e
/-- one more is counted -/
theorem cp_one {P P' : Nat → Bool} : ∀ (l : List Nat) (a : Nat), l.Nodup → a ∈ l → P a = false → P' a = true → (∀ x, x ∈ l → x ≠ a → P' x = P x) → l.countP P' = l.countP P + 1
  | [], a, _, h, _, _, _ => absurd h List.not_mem_nil
  | b :: t, a, hn, h, h1, h2, h3 => by
    obtain ⟨n1, n2⟩ := List.nodup_cons.mp hn
    rw [List.countP_cons, List.countP_cons]
    rcases List.mem_cons.mp h with e | e
    · subst e
      have : t.countP P' = t.countP P := List.countP_congr (fun x hx => by rw [h3 x (List.mem_cons_of_mem _ hx) (fun z => n1 (by rw [← z]; exact hx))])
      rw [this, h1, h2]
      simp
    · have ih := cp_one t a n2 e h1 h2 (fun x hx => h3 x (List.mem_cons_of_mem _ hx))
      rw [ih, h3 b List.mem_cons_self (fun z => n1 (by rw [z]; exact e))]
      omega
theorem bl_up {x : Nat} : ∀ n i, (bl x n i).Pairwise (· < ·)
  | 0, _ => List.Pairwise.nil
  | n + 1, i => by
    rw [bl]
    split
    · exact List.Pairwise.cons (fun y hy => by have := ((bl_mem n (i + 1) y).mp hy).1; omega) (bl_up n (i + 1))
    · exact bl_up n (i + 1)
theorem up_nodup {l : List Nat} (h : l.Pairwise (· < ·)) : l.Nodup := h.imp (fun h => Nat.ne_of_lt h)
theorem mvs_nodup {c : Cfg} {p : Nat} : (mvs c p).Nodup := up_nodup (bl_up _ _)
theorem wbs_nodup {c : Cfg} {p : Nat} : (wbs c p).Nodup := up_nodup (bl_up _ _)
/-- a new way of p changes nothing for the moves of other positions -/
theorem Eb_push {c : Cfg} (hc : CfgOk c) {T : List Nat} {i p w q k : Nat} {W : List Nat} (hq : posB c q = true) (hk : k ∈ mvs c q) (hne : q ≠ sh p (w / 8) (w % 8)) : Eb T i p (W ++ [w]) q k = Eb T i p W q k := by
  unfold Eb
  by_cases h1 : tgt q k = p
  · have h2 : swp k ≠ w := fun e => hne (by have := (move_way hc hq hk).2.2; rw [h1, e] at this; exact this.symm)
    have e : decide (swp k ∈ W ++ [w]) = decide (swp k ∈ W) := by
      rw [decide_eq_decide, List.mem_append, List.mem_singleton]
      exact ⟨fun h => h.resolve_right h2, Or.inl⟩
    rw [e]
  · rw [decide_eq_false h1, Bool.false_and, Bool.false_and]
theorem Eb_app {T : List Nat} {i p q k x : Nat} {W : List Nat} (hi : i ≤ T.length) : Eb (T ++ [x]) i p W q k = Eb T i p W q k := by
  unfold Eb
  rw [List.take_append_of_le_length hi]
theorem Eb_spec {T : List Nat} {i p q k : Nat} {W : List Nat} : Eb T i p W q k = true ↔ tgt q k ∈ T.take i ∨ (tgt q k = p ∧ swp k ∈ W) := by
  unfold Eb
  rw [Bool.or_eq_true, Bool.and_eq_true, decide_eq_true_eq, decide_eq_true_eq, decide_eq_true_eq]
theorem Eb_no {T : List Nat} {i p q k : Nat} {W : List Nat} (h : ¬ (tgt q k ∈ T.take i ∨ (tgt q k = p ∧ swp k ∈ W))) : Eb T i p W q k = false := by
  cases e : Eb T i p W q k
  · rfl
  · exact absurd (Eb_spec.mp e) h
/-- a way to a position that is told already -/
theorem Q_skip {c : Cfg} (hc : CfgOk c) {f op : Nat → Nat} {T : List Nat} {i p w v : Nat} {W : List Nat} (h : QOk c f op T i p W v) (hw : f (sh p (w / 8) (w % 8)) ≠ 0) : QOk c f op T i p (W ++ [w]) v := by
  obtain ⟨a1, a2, a3, a4, a5, a6, a7⟩ := h
  refine ⟨a1, a2, a3, a4, a5, fun q hq h0 => ?_, a7⟩
  obtain ⟨b1, b2, b3⟩ := a6 q hq h0
  have e : ∀ k, k ∈ mvs c q → Eb T i p (W ++ [w]) q k = Eb T i p W q k := fun k hk => Eb_push hc hq hk (fun z => hw (by rw [← z]; exact h0))
  refine ⟨fun k hk he => b1 k hk (by rw [← e k hk]; exact he), ?_, b3⟩
  rw [b2]
  exact List.countP_congr (fun k hk => by rw [e k hk])
/-- a way to an open position behind which a won one is worked off, not its last one -/
theorem Q_dec {c : Cfg} (hc : CfgOk c) {f op : Nat → Nat} {T : List Nat} {i p w v : Nat} {W : List Nat} (h : QOk c f op T i p W v) (hp : T[i]? = some p) (hw : w ∈ wbs c p) (hW : w ∉ W) (h0 : f (sh p (w / 8) (w % 8)) = 0) (hfp : wonV (f p) = true) :
    op (sh p (w / 8) (w % 8)) = (mvs c (sh p (w / 8) (w % 8))).countP (fun k => !Eb T i p (W ++ [w]) (sh p (w / 8) (w % 8)) k) + 1 ∧
    (op (sh p (w / 8) (w % 8)) ≠ 1 → QOk c f (updN op (sh p (w / 8) (w % 8)) (op (sh p (w / 8) (w % 8)) - 1)) T i p (W ++ [w]) v) := by
  obtain ⟨a1, a2, a3, a4, a5, a6, a7⟩ := h
  have hpp : posB c p = true := ((a2 p).mp (List.mem_of_getElem? hp)).1
  obtain ⟨w1, w2, w3⟩ := way_move hc hpp hw
  have wl := (wbs_mem.mp hw).1
  have hcnt : op (sh p (w / 8) (w % 8)) = (mvs c (sh p (w / 8) (w % 8))).countP (fun k => !Eb T i p (W ++ [w]) (sh p (w / 8) (w % 8)) k) + 1 := by
    rw [(a6 _ w1 h0).2.1]
    refine cp_one _ (swp w) mvs_nodup w2 ?_ ?_ (fun k hk hne => ?_)
    · rw [Eb_spec.mpr (Or.inr ⟨w3, by rw [swp_swp wl]; exact List.mem_append_right _ List.mem_cons_self⟩)]; rfl
    · rw [Eb_no (fun z => ?_)]; rfl
      rcases z with z | z
      · rw [w3] at z; exact take_not T i p a1 hp z
      · rw [swp_swp wl] at z; exact hW z.2
    · have kl := (mvs_mem.mp hk).1
      have : swp k ≠ w := fun z => hne (by rw [← z, swp_swp kl])
      congr 1
      unfold Eb
      have e : decide (swp k ∈ W ++ [w]) = decide (swp k ∈ W) := by
        rw [decide_eq_decide, List.mem_append, List.mem_singleton]
        exact ⟨fun h => h.resolve_right this, Or.inl⟩
      rw [e]
  refine ⟨hcnt, fun h1 => ⟨a1, a2, a3, a4, a5, fun q hq hq0 => ?_, a7⟩⟩
  obtain ⟨b1, b2, b3⟩ := a6 q hq hq0
  by_cases e : q = sh p (w / 8) (w % 8)
  · rw [e, updN_at]
    rw [e] at b1 b2 b3
    refine ⟨fun k hk he => ?_, by omega, by omega⟩
    rcases Eb_spec.mp he with z | ⟨z1, z2⟩
    · exact b1 k hk (Eb_spec.mpr (Or.inl z))
    · rw [z1]; exact hfp
  · rw [updN_ne e]
    have e2 : ∀ k, k ∈ mvs c q → Eb T i p (W ++ [w]) q k = Eb T i p W q k := fun k hk => Eb_push hc hq hk e
    refine ⟨fun k hk he => b1 k hk (by rw [← e2 k hk]; exact he), ?_, b3⟩
    rw [b2]
    exact List.countP_congr (fun k hk => by rw [e2 k hk])
