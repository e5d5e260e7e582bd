/-! THE CLASS'S TABLE SOLVED -/
def TFr (k : Nat) (u u' : MU) : Prop := ∀ a, (a < k ∨ k + 4 < a) → u' a = u a
theorem TFr.rf (k : Nat) (u : MU) : TFr k u u := fun _ _ => rfl
theorem TFr.tr {k : Nat} {u u' u'' : MU} (h1 : TFr k u u') (h2 : TFr k u' u'') : TFr k u u'' := fun a h => (h2 a h).trans (h1 a h)
theorem TFr.put {k j i : Nat} {u u' : MU} {x : Int32} (h1 : TFr k u u') (hj : k ≤ j ∧ j ≤ k + 4) : TFr k u (u2 u' j i x) := h1.tr (fun a h => u2_ne (by omega))
theorem TFr_FIs {k k1 : Nat} {u u' : MU} {c : Cfg} (h : TFr k u u') (hk : k1 + 3 < k) (hF : FIs u k1 c) : FIs u' k1 c := by
  unfold FIs
  rw [h k1 (by omega), h (k1 + 3) (by omega)]
  exact hF
/-- what the queue is before position number i of it is worked off -/
def QHd (c : Cfg) (f op : Nat → Nat) (T : List Nat) (i : Nat) : Prop := (∃ p, T[i]? = some p ∧ QOk c f op T i p [] (f p)) ∨ (T.length ≤ i ∧ ∃ p v, QOk c f op T i p [] v)
theorem QHd_next {c : Cfg} (hc : CfgOk c) {f op : Nat → Nat} {T : List Nat} {i p : Nat} (h : QOk c f op T i p (wbs c p) (f p)) (hp : T[i]? = some p) : QHd c f op T (i + 1) := by
  by_cases hl : T.length ≤ i + 1
  · have := Q_next hc (p' := 0) h hp (Or.inr hl)
    exact Or.inr ⟨hl, 0, _, this⟩
  · have hi : i + 1 < T.length := by omega
    have := Q_next hc (p' := T[i + 1]) h hp (Or.inl (List.getElem?_eq_getElem hi))
    rw [if_neg hl] at this
    exact Or.inl ⟨T[i + 1], List.getElem?_eq_getElem hi, this⟩
theorem s_solve_loop {c : Cfg} (hc : CfgOk c) {k k1 : Nat} (hk : zkd k = 9) (hk1 : k1 + 3 < k) {u0 : MU} (hF : FIs u0 k1 c) {Q : MU → Prop}
    (hq : ∀ (u' : MU) (f : Nat → Nat), TF2 k u0 u' → TIs u' k c f → Sol c f → (∀ q, f q < 2 ^ 20) → Q u') :
    ∀ (n i : Nat) (f op : Nat → Nat) (T : List Nat) (u : MU), i + n = 337 → i ≤ T.length → TF2 k u0 u → TM u k c f op T → QHd c f op T i → wl_X7_solve_121 k k1 Q n (nI T.length) (nI i) u := by
  intro n
  induction n with
  | zero =>
    intro i f op T u hi hiT hu hT hQ
    exfalso
    have hlT : T.length ≤ 336 := by
      rcases hQ with ⟨p, hp, hQ⟩ | ⟨hl, p, v, hQ⟩
      · rw [hQ.2.2.2.2.2.2.2.2]; exact Nat.le_trans List.countP_le_length (lp_len hc)
      · rw [hQ.2.2.2.2.2.2.2.2]; exact Nat.le_trans List.countP_le_length (lp_len hc)
    omega
  | succ n ih =>
    intro i f op T u hi hiT hu hT hQ
    have hlT : T.length ≤ 336 := by
      rcases hQ with ⟨p, hp, hQ⟩ | ⟨hl, p, v, hQ⟩
      · rw [hQ.2.2.2.2.2.2.2.2]; exact Nat.le_trans List.countP_le_length (lp_len hc)
      · rw [hQ.2.2.2.2.2.2.2.2]; exact Nat.le_trans List.countP_le_length (lp_len hc)
    rw [wl_X7_solve_121]
    rcases hQ with ⟨p, hp, hQ⟩ | ⟨hl, p, v, hQ⟩
    · have hil := (List.getElem?_eq_some_iff.mp hp).1
      obtain ⟨hpp, hp0⟩ := (hQ.2.1 p).mp (List.mem_of_getElem? hp)
      have hp2 := (posB_spec.mp hpp).1
      have hfb := hQ.2.2.2.2.2.2.1 i p hp
      refine ⟨fun z => absurd z (nI_ge hil (by omega)), fun _ => ⟨fun z => absurd z (nI_ge (b := 336) (by omega) (by decide)), fun _ => s_at (zl9_2 hk) (by omega) (by decide) ?_⟩⟩
      rw [hT.2.2 i p hp]
      refine s_waysBack hc (TF2_FIs hu hk1 hF) hpp ?_
      unfold w_X7_tellBefore
      refine s_at (zl9_3 hk) hp2 (by decide) ?_
      rw [hT.1 p hpp]
      refine s_bitCountL (Wb_lt c p) ⟨(wbs c p).length + 1, ?_⟩
      have L := s_tell_loop hc (i := i) hk hpp (fp := f p) (by omega) (by omega) (u0 := u0) (Q := fun r_7 u_8 => ∀ x3_9, x3_9 = nI i + (1 : Int32) → wl_X7_solve_121 k k1 Q n r_7 x3_9 u_8) (fun u' f' op' T' g1 g2 g3 g4 g5 x3 hx3 => ?_) (wbs c p) [] (Wb c p) f op T u rfl (Wb_lt c p) rfl hu hT hp rfl hQ
      · rw [show ctb (Wb c p) 64 = (wbs c p).length from (bl_ct (Wb c p)).symm]
        obtain ⟨j, hj⟩ : ∃ j, f p = j + 1 := ⟨f p - 1, by omega⟩
        rw [hj, nv_s]
        rw [hj, Nat.add_sub_cancel] at L
        exact L
      · rw [hx3, nI_1]
        exact ih (i + 1) f' op' T' u' (by omega) (List.getElem?_eq_some_iff.mp g3).1 g1 g2 (QHd_next hc (by rw [g4]; exact g5) g3)
    · refine ⟨fun _ => ?_, fun z => absurd (nI_le hl (by omega)) z⟩
      obtain ⟨h1, h2⟩ := Q_end hc hQ hl
      exact hq u f hu hT.1 h1 h2
/-- the start: what is told are the positions without a move -/
def q_f0 (c : Cfg) (q : Nat) : Nat := if posB c q && (mvs c q).isEmpty then 1 else 0
def q_op0 (c : Cfg) (q : Nat) : Nat := (mvs c q).length
def q_T0 (c : Cfg) (D : List Nat) : List Nat := D.filter fun q => (mvs c q).isEmpty
theorem qf0_yes {c : Cfg} {q : Nat} (hq : posB c q = true) (h : (mvs c q).isEmpty = true) : q_f0 c q = 1 := by unfold q_f0; rw [hq, h]; rfl
theorem qf0_no {c : Cfg} {q : Nat} (h : (mvs c q).isEmpty = false) : q_f0 c q = 0 := by unfold q_f0; rw [h, Bool.and_false]; rfl
theorem qf0_le (c : Cfg) (q : Nat) : q_f0 c q ≤ 1 := by unfold q_f0; split <;> omega
theorem Q_start {c : Cfg} (hc : CfgOk c) (p v : Nat) (hv : 0 ≤ v) : QOk c (q_f0 c) (q_op0 c) (q_T0 c (lp c)) 0 p [] v := by
  have mem : ∀ q, q ∈ q_T0 c (lp c) ↔ posB c q = true ∧ (mvs c q).isEmpty = true := fun q => by unfold q_T0; rw [List.mem_filter, lp_mem hc]
  have nz : ∀ {q}, q_f0 c q ≠ 0 → posB c q = true ∧ (mvs c q).isEmpty = true := fun {q} h => by
    unfold q_f0 at h
    split at h
    · rename_i z; exact (Bool.and_eq_true _ _).mp z
    · exact absurd rfl h
  refine ⟨List.Pairwise.filter _ (up_nodup (lp_up hc)), fun q => ?_, ?_, fun q hq => by have := qf0_le c q; omega, fun q hq => ?_, fun q hq h0 => ⟨fun k hk he => ?_, ?_, ?_⟩, fun j q hj => by have := qf0_le c q; omega, fun q hq => ?_, ?_⟩
  · rw [mem]
    exact ⟨fun h => ⟨h.1, by rw [qf0_yes h.1 h.2]; decide⟩, fun h => nz h.2⟩
  · refine List.Pairwise.imp_of_mem (R := fun _ _ => True) (fun h1 h2 _ => ?_) (List.pairwise_of_forall (fun _ _ => trivial))
    have a1 := (mem _).mp h1
    have a2 := (mem _).mp h2
    rw [qf0_yes a1.1 a1.2, qf0_yes a2.1 a2.2]
    exact Nat.le_refl _
  · have a1 := (mem _).mp hq
    rw [qf0_yes a1.1 a1.2]
    unfold Cnd
    rw [if_pos rfl]
    refine ⟨fun a b m => ?_, Or.inl rfl⟩
    have := (mv_lt8 hc a1.1 m).1
    rw [List.isEmpty_iff.mp a1.2] at this
    exact absurd this List.not_mem_nil
  · rcases Eb_spec.mp he with z | z
    · rw [List.take_zero] at z; exact absurd z List.not_mem_nil
    · exact absurd z.2 List.not_mem_nil
  · have e : ∀ k, k ∈ mvs c q → Eb (q_T0 c (lp c)) 0 p [] q k = false := fun k _ => Eb_no (fun z => by
      rcases z with z | z
      · rw [List.take_zero] at z; exact absurd z List.not_mem_nil
      · exact absurd z.2 List.not_mem_nil)
    unfold q_op0
    exact (List.countP_eq_length.mpr (fun k hk => by rw [e k hk]; rfl)).symm
  · unfold q_op0
    rcases Nat.eq_zero_or_pos (mvs c q).length with z | z
    · have : (mvs c q).isEmpty = true := List.isEmpty_iff.mpr (List.length_eq_zero_iff.mp z)
      rw [qf0_yes hq this] at h0; cases h0
    · exact z
  · unfold q_f0; rw [hq]; rfl
  · unfold q_T0
    rw [List.countP_eq_length_filter]
    congr 1
    refine List.filter_congr (fun q hq => ?_)
    have hq' := (lp_mem hc).mp hq
    cases e : (mvs c q).isEmpty
    · rw [qf0_no e]; rfl
    · rw [qf0_yes hq' e]; rfl
