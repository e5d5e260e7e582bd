/-! finds: the list of all moves, the same as the class's bits in their order -/
theorem tk_or {p : Nat} (hp : p < 1296) : ((1 : Int32) <<< (nI (fx p) &&& 31) ||| (1 : Int32) <<< (nI (fi p) &&& 31)) ||| (if se p = 0 then (0 : Int32) else (1 : Int32) <<< (nI (se p - 1) &&& 31)) = nI (tkN p) := by
  have h1 := fx_lt hp
  have h2 := fi_lt p
  have h3 := se_lt p
  unfold tkN
  rw [tp_bit _ (by omega), tp_bit _ (by omega), fa_or]
  by_cases e : se p = 0
  · rw [if_pos e, if_pos e, show (0 : Int32) = nI 0 from rfl, fa_or]
  · rw [if_neg e, if_neg e, tp_bit _ (by omega), fa_or]
theorem r_comes {c : Cfg} (hc : CfgOk c) {v0 : MU} (hR : RIs v0 c) (hN : RNear v0 c) {p b : Nat} (hp : posB c p = true) (hb : b < c.n) (hpc : if tu p = 0 then b = fx p else b = fi p ∨ b + 1 = se p) {Q : MU → Prop} {v : MU} {l : List Nat} (hf : FR v0 v) (hl : MLs v l) (hlen : l.length + c.n ≤ 24) (hq : ∀ v', FR v0 v' → MLs v' (l ++ cml c p b c.n 0) → Q v') : w_X10_comes (nI p) (nI b) v Q := by
  have hp2 := (posB_spec.mp hp).1
  have hs := se_lt p
  have L := r_comes_loop hc hR hN hp hb hpc (Q := Q) c.n 0 v l (by omega) hf hl hlen hq
  unfold w_X10_comes wb_X10_comes_30
  refine r_fx hp2 (r_fi hp2 (r_se hp2 ⟨fun h1 => r_se hp2 (fun x hx => ⟨c.n + 1, ?_⟩), fun h1 x hx => ⟨c.n + 1, ?_⟩⟩))
  · have e : se p ≠ 0 := fun q => by rw [q] at h1; exact absurd h1 (by decide +kernel)
    have t := tk_or hp2
    rw [if_neg e] at t
    rw [hx, nI_pr (by omega), t]
    exact L
  · have e : se p = 0 := by
      rcases Nat.eq_zero_or_pos (se p) with q | q
      · exact q
      · rw [nI_pr q] at h1; exact absurd (nI_pos' (by omega)) h1
    have t := tk_or hp2
    rw [if_pos e] at t
    rw [hx, t]
    exact L
def fl (c : Cfg) (p : Nat) : List Nat := if tu p = 0 then cml c p (fx p) c.n 0 else cml c p (fi p) c.n 0 ++ (if se p = 0 then [] else cml c p (se p - 1) c.n 0)
theorem r_finds0 {c : Cfg} (hc : CfgOk c) {v0 : MU} (hR : RIs v0 c) (hN : RNear v0 c) {p : Nat} (hp : posB c p = true) {Q : MU → Prop} (hq : ∀ v', FR v0 v' → MLs v' (fl c p) → Q v') : w_X10_finds (nI p) v0 Q := by
  obtain ⟨h1, h2, h3, h4, h5⟩ := posB_spec.mp hp
  have hn := hc.hn
  have hs := se_lt p
  have hse : se p = 0 ∨ (1 ≤ se p ∧ se p ≤ c.n ∧ fi p + 1 < se p ∧ se p ≠ fx p + 1) := by
    by_cases hg : c.geese = 1
    · rw [if_pos hg] at h5; exact Or.inl h5
    · rw [if_neg hg] at h5; exact Or.inr h5
  unfold w_X10_finds wb_X10_finds_21 wb_X10_finds_37
  intro a ha
  have fa : FR v0 a := fun k j q1 q2 q3 => by rw [ha, u2_o (by omega)]
  have la : MLs a [] := ⟨by rw [ha, u2_at]; rfl, fun i k hk => by simp at hk⟩
  unfold fl at hq
  rcases (show tu p = 0 ∨ tu p = 1 by have := tu_lt p; omega) with ht | ht
  · rw [if_pos ht] at hq
    refine r_tu h1 ?_
    rw [ht]
    refine ⟨fun q => absurd rfl q, fun _ => r_fx h1 (r_comes hc hR hN hp h2 (by rw [if_pos ht]) fa la (by rw [List.length_nil]; omega) (fun v' f' l' => r_tu h1 ?_))⟩
    rw [ht]
    refine ⟨fun _ => r_tu h1 ?_, fun q => absurd rfl q⟩
    rw [ht]
    exact ⟨fun _ => hq v' f' l', fun q => absurd rfl q⟩
  · rw [if_neg (by omega)] at hq
    refine r_tu h1 ?_
    rw [ht]
    refine ⟨fun _ => r_tu h1 ?_, fun q => absurd q (by decide +kernel)⟩
    rw [ht]
    refine ⟨fun q => absurd q (by decide +kernel), fun _ => r_fi h1 (r_comes hc hR hN hp h3 (by rw [if_neg (by omega)]; exact Or.inl rfl) fa la (by rw [List.length_nil]; omega) (fun v' f' l' => r_tu h1 ?_))⟩
    rw [ht]
    refine ⟨fun q => absurd q (by decide +kernel), fun _ => r_se h1 ⟨fun q => ?_, fun q => r_se h1 ?_⟩⟩
    · have e : se p = 0 := by
        rcases Nat.eq_zero_or_pos (se p) with z | z
        · exact z
        · rw [nI_pr z] at q; exact absurd q (nI_pos (by omega))
      refine hq v' f' ?_
      rw [if_pos e, List.append_nil]
      exact l'
    · have e : se p ≠ 0 := fun z => by rw [z] at q; exact absurd (by decide +kernel) q
      have e2 := hse.resolve_left e
      rw [nI_pr e2.1]
      refine r_comes hc hR hN hp (by omega) (by rw [if_neg (by omega)]; exact Or.inr (by omega)) f' l' (by rw [List.nil_append]; have := cml_len (c := c) (p := p) (b := fi p) c.n 0; omega) (fun v2 f2 l2 => hq v2 f2 ?_)
      rw [if_neg e]
      exact l2
theorem bl_app {x : Nat} : ∀ m n i, bl x (m + n) i = bl x m i ++ bl x n (i + m)
  | 0, n, i => by rw [Nat.zero_add]; rfl
  | m + 1, n, i => by
    rw [show m + 1 + n = (m + n) + 1 by omega, bl, bl, bl_app m n (i + 1), show i + 1 + m = i + (m + 1) by omega]
    split <;> rfl
theorem cml_app {c : Cfg} {p b : Nat} : ∀ m n t, cml c p b (m + n) t = cml c p b m t ++ cml c p b n (t + m)
  | 0, n, t => by rw [Nat.zero_add]; rfl
  | m + 1, n, t => by
    rw [show m + 1 + n = (m + n) + 1 by omega, cml, cml, cml_app m n (t + 1), show t + 1 + m = t + (m + 1) by omega]
    split <;> rfl
theorem cml_none {c : Cfg} {p b : Nat} : ∀ n t, (∀ i, t ≤ i → i < t + n → mvB c p b i = false) → cml c p b n t = []
  | 0, _, _ => rfl
  | n + 1, t, h => by
    rw [cml, if_neg (by rw [h t (Nat.le_refl _) (by omega)]; exact Bool.false_ne_true)]
    exact cml_none n (t + 1) (fun i h1 h2 => h i (by omega) (by omega))
theorem bl_cml {c : Cfg} {p b : Nat} (hb : b < 8) : ∀ n t, t + n ≤ 8 → bl (Mv c p) n (8 * b + t) = cml c p b n t
  | 0, _, _ => rfl
  | n + 1, t, h => by
    have e : (Mv c p).testBit (8 * b + t) = mvB c p b t := by
      unfold Mv
      rw [bits_test, decide_eq_true (show 8 * b + t < 64 by omega), Bool.true_and, show (8 * b + t) / 8 = b by omega, show (8 * b + t) % 8 = t by omega]
    rw [bl, cml, e, Nat.add_assoc, bl_cml hb n (t + 1) (by omega)]
def blks (c : Cfg) (p : Nat) : Nat → List Nat
  | 0 => []
  | k + 1 => blks c p k ++ cml c p k 8 0
theorem bl_blks {c : Cfg} {p : Nat} : ∀ k, k ≤ 8 → bl (Mv c p) (8 * k) 0 = blks c p k
  | 0, _ => rfl
  | k + 1, h => by
    rw [show 8 * (k + 1) = 8 * k + 8 by omega, bl_app, bl_blks k (by omega), blks, Nat.zero_add]
    congr 1
    exact bl_cml (by omega) 8 0 (by omega)
theorem blks_one {c : Cfg} {p q : Nat} (h : ∀ a, a < 8 → a ≠ q → cml c p a 8 0 = []) : ∀ k, k ≤ 8 → blks c p k = if q < k then cml c p q 8 0 else []
  | 0, _ => by rw [if_neg (by omega)]; rfl
  | k + 1, hk => by
    rw [blks, blks_one h k (by omega)]
    by_cases e : q = k
    · subst e
      rw [if_neg (by omega), if_pos (by omega), List.nil_append]
    · rw [h k (by omega) (fun z => e z.symm), List.append_nil]
      by_cases e2 : q < k
      · rw [if_pos e2, if_pos (by omega)]
      · rw [if_neg e2, if_neg (by omega)]
theorem blks_two {c : Cfg} {p q r : Nat} (hqr : q < r) (h : ∀ a, a < 8 → a ≠ q → a ≠ r → cml c p a 8 0 = []) : ∀ k, k ≤ 8 → blks c p k = (if q < k then cml c p q 8 0 else []) ++ if r < k then cml c p r 8 0 else []
  | 0, _ => by rw [if_neg (Nat.not_lt_zero q), if_neg (Nat.not_lt_zero r)]; rfl
  | k + 1, hk => by
    rw [blks, blks_two hqr h k (by omega)]
    by_cases e : q = k
    · subst e
      rw [if_neg (Nat.lt_irrefl q), if_pos (Nat.lt_succ_self q), if_neg (show ¬ r < q by omega), if_neg (show ¬ r < q + 1 by omega), List.append_nil, List.nil_append, List.append_nil]
    · by_cases e' : r = k
      · subst e'
        rw [if_pos hqr, if_pos (show q < r + 1 by omega), if_neg (Nat.lt_irrefl r), if_pos (Nat.lt_succ_self r), List.append_nil]
      · rw [h k (by omega) (fun z => e z.symm) (fun z => e' z.symm), List.append_nil]
        have e1 : (q < k + 1) = (q < k) := propext ⟨fun _ => by omega, fun _ => by omega⟩
        have e2 : (r < k + 1) = (r < k) := propext ⟨fun _ => by omega, fun _ => by omega⟩
        simp only [e1, e2]
theorem cml_n {c : Cfg} (hc : CfgOk c) (p b : Nat) : cml c p b 8 0 = cml c p b c.n 0 := by
  have hn := hc.hn
  obtain ⟨m, hm⟩ : ∃ m, 8 = c.n + m := ⟨8 - c.n, by omega⟩
  rw [hm, cml_app, cml_none m, List.append_nil]
  intro i h1 _
  cases e : mvB c p b i
  · rfl
  · have := (hc.hin _ _ (mvB_spec.mp e).1).2.1
    omega
theorem fl_mvs {c : Cfg} (hc : CfgOk c) {p : Nat} (hp : posB c p = true) : fl c p = mvs c p := by
  obtain ⟨h1, h2, h3, h4, h5⟩ := posB_spec.mp hp
  have hn := hc.hn
  have hse : se p = 0 ∨ (1 ≤ se p ∧ se p ≤ c.n ∧ fi p + 1 < se p ∧ se p ≠ fx p + 1) := by
    by_cases hg : c.geese = 1
    · rw [if_pos hg] at h5; exact Or.inl h5
    · rw [if_neg hg] at h5; exact Or.inr h5
  have none : ∀ a, ¬ (if tu p = 0 then a = fx p else a = fi p ∨ a + 1 = se p) → cml c p a 8 0 = [] := fun a ha => cml_none 8 0 (fun i _ _ => by
    cases e : mvB c p a i
    · rfl
    · exfalso
      have m4 := (mvB_spec.mp e).2.2.2
      by_cases ht : tu p = 0
      · rw [if_pos ht] at ha m4; exact ha m4
      · rw [if_neg ht] at ha m4; exact ha m4.1)
  unfold mvs fl
  rw [show 64 = 8 * 8 from rfl, bl_blks 8 (Nat.le_refl _)]
  by_cases ht : tu p = 0
  · rw [if_pos ht, blks_one (q := fx p) (fun a _ ha => none a (by rw [if_pos ht]; exact ha)) 8 (Nat.le_refl _), if_pos (by omega), cml_n hc]
  · rw [if_neg ht]
    rcases hse with h0 | h0
    · rw [if_pos h0, List.append_nil, blks_one (q := fi p) (fun a _ ha => none a (by rw [if_neg ht]; omega)) 8 (Nat.le_refl _), if_pos (by omega), cml_n hc]
    · rw [if_neg (by omega), blks_two (q := fi p) (r := se p - 1) (by omega) (fun a _ ha hb => none a (by rw [if_neg ht]; omega)) 8 (Nat.le_refl _), if_pos (by omega), if_pos (by omega), cml_n hc, cml_n hc]
theorem r_finds {c : Cfg} (hc : CfgOk c) {v0 : MU} (hR : RIs v0 c) (hN : RNear v0 c) {p : Nat} (hp : posB c p = true) {Q : MU → Prop} (hq : ∀ v', FR v0 v' → MLs v' (mvs c p) → Q v') : w_X10_finds (nI p) v0 Q := r_finds0 hc hR hN hp (by rw [fl_mvs hc hp]; exact hq)
