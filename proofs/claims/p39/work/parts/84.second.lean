/-! THE SECOND WAY: what is seen of a position -/
def oc (w : Nat) : Nat := if w = 0 then 0 else if w % 2 = 1 then 2 else 1
theorem oc_I (w : Nat) : nI (oc w) = outI w := by
  unfold oc outI
  split
  · rfl
  · split <;> rfl
def seenV (o : Nat → Nat) (c : Cfg) (p : Nat) : Nat := if (mvs c p).any (fun k => decide (o (tgt p k) = 2)) = true then 1 else if (mvs c p).countP (fun k => decide (o (tgt p k) = 1)) = (mvs c p).length then 2 else 0
/-- the outcomes are told in row 107 -/
def OcI (u : MU) (c : Cfg) (o : Nat → Nat) : Prop := ∀ q, posB c q = true → u 107 q = nI (o q)
theorem nI_2 {n : Nat} (h : n ≤ 2) : (nI n = 2 ↔ n = 2) ∧ (nI n = 1 ↔ n = 1) ∧ (nI n = 0 ↔ n = 0) := ⟨nI_eq (b := 2) (by omega) (by decide), nI_eq (b := 1) (by omega) (by decide), nI_eq (b := 0) (by omega) (by decide)⟩
theorem s_seen {c : Cfg} (hc : CfgOk c) {k1 : Nat} {u : MU} (hF : FIs u k1 c) {o : Nat → Nat} (ho : ∀ q, o q ≤ 2) (hO : OcI u c o) {p : Nat} (hp : posB c p = true) {Q : Int32 → Prop} (hq : Q (nI (seenV o c p))) : w_X5_seen k1 u (nI p) Q := by
  have hp2 := (posB_spec.mp hp).1
  have hml := mvs_le (c := c) (p := p)
  have loop : ∀ (t d : List Nat) (x : Nat), mvs c p = d ++ t → x < 2 ^ 64 → bl x 64 0 = t → (∀ k, k ∈ d → o (tgt p k) ≠ 2) → wl_X5_seen_18 k1 u Q (t.length + 1) (nI p) (lN x) (nI (mvs c p).length) (nI (d.countP (fun k => decide (o (tgt p k) = 1)))) (nI d.length) := by
    intro t
    induction t with
    | nil =>
      intro d x hd hx hl hno
      rw [List.append_nil] at hd
      subst hd
      rw [List.length_nil, wl_X5_seen_18]
      have hany : ¬ (mvs c p).any (fun k => decide (o (tgt p k) = 2)) = true := fun z => by
        obtain ⟨k, h1, h2⟩ := List.any_eq_true.mp z
        exact hno k h1 (of_decide_eq_true h2)
      have hcl := List.countP_le_length (p := fun k => decide (o (tgt p k) = 1)) (l := mvs c p)
      refine ⟨fun _ => ⟨fun z => ?_, fun z => ?_⟩, fun z => absurd (nI_le (Nat.le_refl _) (by omega)) z⟩
      · have : seenV o c p = 0 := by
          unfold seenV
          rw [if_neg hany, if_neg (fun e => z (by rw [e]))]
        rw [this] at hq; exact hq
      · have : seenV o c p = 2 := by
          unfold seenV
          rw [if_neg hany, if_pos ((nI_eq (by omega) (by omega)).mp z)]
        rw [this] at hq; exact hq
    | cons w t ih =>
      intro d x hd hx hl hno
      obtain ⟨b1, b2, b3, b4, b5⟩ := bl_step hx hl
      have hw : w ∈ mvs c p := by rw [hd]; exact List.mem_append_right _ List.mem_cons_self
      have hpos := (mv_wb hc hp (mvs_mem.mp hw).2).1
      have hq1 := (posB_spec.mp hpos).1
      have hlen : (mvs c p).length = d.length + (t.length + 1) := by rw [hd, List.length_append, List.length_cons]
      obtain ⟨i2, i1, -⟩ := nI_2 (ho (tgt p w))
      rw [List.length_cons, wl_X5_seen_18]
      refine ⟨fun z => absurd z (nI_ge (by omega) (by omega)), fun _ => s_firstMove hx b3 b4 (s_withoutFirst b2 (s_from b1 (s_to b1 (s_shifted hp2 (by omega) (by omega) (s_at (N := 1296) rfl hq1 (by decide) ?_)))))⟩
      rw [hO _ hpos]
      have next : o (tgt p w) ≠ 2 → wb_X5_seen_76 (fun x2' x3' x5' x6' x7' => wl_X5_seen_18 k1 u Q (t.length + 1) x2' x3' x5' x6' x7') k1 u Q (nI p) (lN (rest1 x)) (nI (mvs c p).length) (nI ((d ++ [w]).countP (fun k => decide (o (tgt p k) = 1)))) (nI d.length) := fun h2 x7 hx7 => by
        rw [hx7, nI_1]
        have := ih (d ++ [w]) (rest1 x) (by rw [hd, List.append_assoc]; rfl) (rest1_lt hx) b5 (fun k hk => by
          rcases List.mem_append.mp hk with z | z
          · exact hno k z
          · rw [List.mem_singleton.mp z]; exact h2)
        rw [List.length_append, List.length_singleton] at this
        exact this
      refine ⟨fun z => ⟨fun z1 => ?_, fun z1 x6 hx6 => ?_⟩, fun z => ?_⟩
      · have h2 : o (tgt p w) ≠ 2 := fun e => z (i2.mpr e)
        have h1 : o (tgt p w) ≠ 1 := fun e => z1 (i1.mpr e)
        have := next h2
        rw [List.countP_append, List.countP_cons_of_neg (by rw [decide_eq_true_eq]; exact h1), List.countP_nil, Nat.add_zero] at this
        exact this
      · have h2 : o (tgt p w) ≠ 2 := fun e => z (i2.mpr e)
        have h1 : o (tgt p w) = 1 := i1.mp z1
        have := next h2
        rw [List.countP_append, List.countP_cons_of_pos (by rw [decide_eq_true_eq]; exact h1), List.countP_nil, Nat.zero_add] at this
        rw [hx6, nI_1]
        exact this
      · have h2 : o (tgt p w) = 2 := i2.mp z
        have : seenV o c p = 1 := by
          unfold seenV
          rw [if_pos (List.any_eq_true.mpr ⟨w, hw, decide_eq_true h2⟩)]
        rw [this] at hq; exact hq
  unfold w_X5_seen
  refine s_movesOf hc hF hp (s_bitCountL (Mv_lt c p) ⟨(mvs c p).length + 1, ?_⟩)
  rw [show ctb (Mv c p) 64 = (mvs c p).length from (bl_ct (Mv c p)).symm]
  exact loop (mvs c p) [] (Mv c p) rfl (Mv_lt c p) rfl (fun k hk => absurd hk List.not_mem_nil)
/-- what is told is true -/
def SO (c : Cfg) (o : Nat → Nat) : Prop := (∀ q, o q ≤ 2) ∧ ∀ q, posB c q = true → o q ≠ 0 → o q = oc (slv c q)
def Closd (c : Cfg) (o : Nat → Nat) : Prop := ∀ q, posB c q = true → o q = 0 → seenV o c q = 0
theorem oc_2 {w : Nat} : oc w = 2 ↔ w % 2 = 1 := by unfold oc; split <;> (try split) <;> omega
theorem oc_1 {w : Nat} : oc w = 1 ↔ w ≠ 0 ∧ w % 2 = 0 := by unfold oc; split <;> (try split) <;> omega
theorem oc_0 {w : Nat} : oc w = 0 ↔ w = 0 := by unfold oc; split <;> (try split) <;> omega
theorem oc_le (w : Nat) : oc w ≤ 2 := by unfold oc; split <;> (try split) <;> omega
theorem seen_sound {c : Cfg} (hc : CfgOk c) {o : Nat → Nat} (hS : SO c o) {p : Nat} (hp : posB c p = true) (h : seenV o c p ≠ 0) : seenV o c p = oc (slv c p) := by
  have tr : ∀ k, k ∈ mvs c p → o (tgt p k) ≠ 0 → o (tgt p k) = oc (slv c (tgt p k)) := fun k hk => hS.2 _ (mv_wb hc hp (mvs_mem.mp hk).2).1
  unfold seenV at h ⊢
  by_cases h1 : (mvs c p).any (fun k => decide (o (tgt p k) = 2)) = true
  · rw [if_pos h1]
    obtain ⟨k, k1, k2⟩ := List.any_eq_true.mp h1
    have k3 := of_decide_eq_true k2
    have := tr k k1 (by omega)
    rw [k3] at this
    exact (oc_1.mpr (Sol_w hc (slv_sol hc) hp ⟨k, k1, oc_2.mp this.symm⟩)).symm
  · rw [if_neg h1] at h ⊢
    by_cases h2 : (mvs c p).countP (fun k => decide (o (tgt p k) = 1)) = (mvs c p).length
    · rw [if_pos h2]
      refine (oc_2.mpr (Sol_l hc (slv_sol hc) (slv_lt hc) hp (fun k hk => ?_))).symm
      have k3 := of_decide_eq_true (List.countP_eq_length.mp h2 k hk)
      have := tr k hk (by omega)
      rw [k3] at this
      exact oc_1.mp this.symm
    · rw [if_neg h2] at h
      exact absurd rfl h
theorem closed_all {c : Cfg} (hc : CfgOk c) {o : Nat → Nat} (hS : SO c o) (hC : Closd c o) : ∀ q, posB c q = true → o q = oc (slv c q) := by
  have H : ∀ k q, posB c q = true → slv c q = k + 1 → o q ≠ 0 := by
    intro k
    induction k using Nat.strongRecOn with
    | ind k ih =>
      intro q hq hk h0
      have hs := hC q hq h0
      have hCn := (slv_sol hc q hq k).mp hk
      unfold Cnd at hCn
      unfold seenV at hs
      by_cases e : k % 2 = 0
      · rw [if_pos e] at hCn
        have all1 : ∀ k', k' ∈ mvs c q → o (tgt q k') = 1 := fun k' hk' => by
          have m := mvs_mem.mp hk'
          obtain ⟨j, j1, j2, j3⟩ := hCn.1 _ _ m.2
          have hpos := (mv_wb hc hq m.2).1
          have hn := ih j j1 _ hpos j3
          have := hS.2 _ hpos hn
          unfold tgt
          rw [this, j3]
          exact oc_1.mpr ⟨by omega, by omega⟩
        have h1 : ¬ (mvs c q).any (fun k => decide (o (tgt q k) = 2)) = true := fun z => by
          obtain ⟨k', k1, k2⟩ := List.any_eq_true.mp z
          have := of_decide_eq_true k2
          have := all1 k' k1
          omega
        rw [if_neg h1, if_pos (List.countP_eq_length.mpr (fun k' hk' => decide_eq_true (all1 k' hk')))] at hs
        cases hs
      · rw [if_neg e] at hCn
        obtain ⟨⟨a, b, m, z⟩, -⟩ := hCn
        obtain ⟨m1, m2⟩ := mv_lt8 hc hq m
        have hpos := (mv_wb hc hq m).1
        have hn := ih (k - 1) (by omega) _ hpos (by omega)
        have := hS.2 _ hpos hn
        have h2 : o (sh q a b) = 2 := by rw [this, z]; exact oc_2.mpr (by omega)
        rw [if_pos (List.any_eq_true.mpr ⟨_, m1, by rw [m2]; exact decide_eq_true h2⟩)] at hs
        cases hs
  intro q hq
  rcases Nat.eq_zero_or_pos (slv c q) with z | z
  · rcases Nat.eq_zero_or_pos (o q) with z2 | z2
    · rw [z, z2]; rfl
    · exact hS.2 q hq (by omega)
  · exact hS.2 q hq (H (slv c q - 1) q hq (by omega))
