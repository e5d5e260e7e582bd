/-! THE QUEUE: one more is told; on with the next; the end -/
theorem Cnd_one {c : Cfg} {f : Nat → Nat} {k k' p : Nat} (h : Cnd c f k p) (h' : Cnd c f k' p) : k = k' := by
  unfold Cnd at h h'
  by_cases e : k % 2 = 0
  · rw [if_pos e] at h
    by_cases e' : k' % 2 = 0
    · rw [if_pos e'] at h'
      have le : ∀ {x y : Nat}, (∀ a b, mvB c p a b = true → ∃ j, j < y ∧ j % 2 = 1 ∧ f (sh p a b) = j + 1) → (x = 0 ∨ ∃ a b, mvB c p a b = true ∧ f (sh p a b) = x) → x ≤ y := fun {x y} h1 h2 => by
        rcases h2 with z | ⟨a, b, m, z⟩
        · omega
        · obtain ⟨j, j1, j2, j3⟩ := h1 a b m
          omega
      have := le h'.1 h.2
      have := le h.1 h'.2
      omega
    · rw [if_neg e'] at h'
      obtain ⟨⟨a, b, m, z⟩, -⟩ := h'
      obtain ⟨j, j1, j2, j3⟩ := h.1 a b m
      omega
  · rw [if_neg e] at h
    by_cases e' : k' % 2 = 0
    · rw [if_pos e'] at h'
      obtain ⟨⟨a, b, m, z⟩, -⟩ := h
      obtain ⟨j, j1, j2, j3⟩ := h'.1 a b m
      omega
    · rw [if_neg e'] at h'
      obtain ⟨⟨a, b, m, z⟩, h1⟩ := h
      obtain ⟨⟨a', b', m', z'⟩, h1'⟩ := h'
      have x1 : ¬ k < k' := fun q => h1' a b m (k - 1) (by omega) (by omega) (by omega)
      have x2 : ¬ k' < k := fun q => h1 a' b' m' (k' - 1) (by omega) (by omega) (by omega)
      omega
theorem mv_lt8 {c : Cfg} (hc : CfgOk c) {p a b : Nat} (hp : posB c p = true) (m : mvB c p a b = true) : 8 * a + b ∈ mvs c p ∧ tgt p (8 * a + b) = sh p a b := by
  obtain ⟨-, -, -, -, ha, hb⟩ := mv_wb hc hp m
  have e1 : (8 * a + b) / 8 = a := by omega
  have e2 : (8 * a + b) % 8 = b := by omega
  refine ⟨mvs_mem.mpr ⟨by omega, by rw [e1, e2]; exact m⟩, ?_⟩
  unfold tgt
  rw [e1, e2]
/-- what is told is told by the values -/
theorem Q_val {c : Cfg} (hc : CfgOk c) {f op : Nat → Nat} {T : List Nat} {i p w : Nat} {W : List Nat} (h : QOk c f op T i p W (f p)) (hp : T[i]? = some p) (hw : w ∈ wbs c p) (h0 : f (sh p (w / 8) (w % 8)) = 0)
    (hd : f p % 2 = 1 ∨ (f p % 2 = 0 ∧ ∀ k, k ∈ mvs c (sh p (w / 8) (w % 8)) → Eb T i p (W ++ [w]) (sh p (w / 8) (w % 8)) k = true)) : Cnd c f (f p) (sh p (w / 8) (w % 8)) := by
  obtain ⟨a1, a2, a3, a4, a5, a6, a7⟩ := h
  obtain ⟨hpp, hp0⟩ := (a2 p).mp (List.mem_of_getElem? hp)
  obtain ⟨w1, w2, w3⟩ := way_move hc hpp hw
  obtain ⟨b1, -, -⟩ := a6 _ w1 h0
  have w4 := (mvs_mem.mp w2).2
  unfold Cnd
  rcases hd with hd | ⟨hd, hall⟩
  · rw [if_neg (by omega)]
    refine ⟨⟨_, _, w4, by show f (tgt _ (swp w)) = f p; rw [w3]⟩, fun a b m j j1 j2 j3 => ?_⟩
    obtain ⟨k1, k2⟩ := mv_lt8 hc w1 m
    have hpos := (mv_wb hc w1 m).1
    have hT : sh (sh p (w / 8) (w % 8)) a b ∈ T := (a2 _).mpr ⟨hpos, by omega⟩
    by_cases ht : sh (sh p (w / 8) (w % 8)) a b ∈ T.take i
    · have := b1 _ k1 (Eb_spec.mpr (Or.inl (by rw [k2]; exact ht)))
      rw [k2, wonV_spec] at this
      omega
    · have := take_ge T i p _ a3 hp hT ht
      omega
  · rw [if_pos hd]
    refine ⟨fun a b m => ?_, Or.inr ⟨_, _, w4, by show f (tgt _ (swp w)) = f p; rw [w3]⟩⟩
    obtain ⟨k1, k2⟩ := mv_lt8 hc w1 m
    have hk := hall _ k1
    rcases Eb_spec.mp hk with z | ⟨z1, z2⟩
    · have h1 := b1 _ k1 (Eb_spec.mpr (Or.inl z))
      rw [wonV_spec] at h1
      have h2 := take_le T i p _ a3 hp z
      rw [k2] at h1 h2
      exact ⟨f (sh (sh p (w / 8) (w % 8)) a b) - 1, by omega, by omega, by omega⟩
    · rw [k2] at z1
      rw [z1]
      exact ⟨f p - 1, by omega, by omega, by omega⟩
theorem Q_tell {c : Cfg} (hc : CfgOk c) {f op op' : Nat → Nat} {T : List Nat} {i p w : Nat} {W : List Nat} (h : QOk c f op T i p W (f p)) (hp : T[i]? = some p) (hw : w ∈ wbs c p) (h0 : f (sh p (w / 8) (w % 8)) = 0) (hC : Cnd c f (f p) (sh p (w / 8) (w % 8))) (hop : ∀ q, q ≠ sh p (w / 8) (w % 8) → op' q = op q) :
    QOk c (updN f (sh p (w / 8) (w % 8)) (f p + 1)) op' (T ++ [sh p (w / 8) (w % 8)]) i p (W ++ [w]) (f p) := by
  obtain ⟨a1, a2, a3, a4, a5, a6, a7, a8, a9⟩ := h
  obtain ⟨hpp, hp0⟩ := (a2 p).mp (List.mem_of_getElem? hp)
  obtain ⟨w1, w2, w3⟩ := way_move hc hpp hw
  have hil := (List.getElem?_eq_some_iff.mp hp).1
  generalize hx : sh p (w / 8) (w % 8) = x at *
  have hxT : x ∉ T := fun z => ((a2 x).mp z).2 h0
  have same : ∀ {q}, q ∈ T → updN f x (f p + 1) q = f q := fun {q} hq => updN_ne (fun z => hxT (by rw [← z]; exact hq))
  have cong : ∀ {k q}, posB c q = true → k ≤ f p → Cnd c f k q → Cnd c (updN f x (f p + 1)) k q := fun {k q} hq hk hC => Cnd_cong hc hq (fun q' hq' j hj => by
    by_cases e : q' = x
    · rw [e, updN_at, h0]
      exact ⟨fun z => by omega, fun z => by omega⟩
    · rw [updN_ne e]) hC
  refine ⟨?_, fun q => ?_, ?_, fun q hq => ?_, fun q hq => ?_, fun q hq hq0 => ?_, fun j q hj => ?_, fun q hq => ?_, ?_⟩
  · exact List.nodup_append.mpr ⟨a1, by simp, fun a ha b hb => by rw [List.mem_singleton.mp hb]; exact fun z => hxT (by rw [← z]; exact ha)⟩
  · rw [List.mem_append, List.mem_singleton]
    by_cases e : q = x
    · rw [e, updN_at]
      exact ⟨fun _ => ⟨w1, by omega⟩, fun _ => Or.inr rfl⟩
    · rw [updN_ne e, ← a2]
      exact ⟨fun h => h.resolve_right e, Or.inl⟩
  · refine List.pairwise_append.mpr ⟨a3.imp_of_mem (fun h1 h2 h => by rw [same h1, same h2]; exact h), List.pairwise_singleton _ _, fun a ha b hb => ?_⟩
    rw [List.mem_singleton.mp hb, updN_at, same ha]
    exact a4 a ha
  · rcases List.mem_append.mp hq with z | z
    · rw [same z]; exact a4 q z
    · rw [List.mem_singleton.mp z, updN_at]; exact Nat.le_refl _
  · rcases List.mem_append.mp hq with z | z
    · rw [same z]
      have := a4 q z
      exact cong ((a2 q).mp z).1 (by omega) (a5 q z)
    · rw [List.mem_singleton.mp z, updN_at, Nat.add_sub_cancel]
      exact cong w1 (Nat.le_refl _) hC
  · have e : q ≠ x := fun z => by rw [z, updN_at] at hq0; omega
    rw [updN_ne e] at hq0
    obtain ⟨b1, b2, b3⟩ := a6 q hq hq0
    have e2 : ∀ k, k ∈ mvs c q → Eb (T ++ [x]) i p (W ++ [w]) q k = Eb T i p W q k := fun k hk => by rw [Eb_app (by omega), Eb_push hc hq hk (by rw [hx]; exact e)]
    rw [hop q e]
    refine ⟨fun k hk he => ?_, ?_, b3⟩
    · rw [e2 k hk] at he
      have hne : tgt q k ≠ x := fun z => by
        rcases Eb_spec.mp he with z2 | z2
        · exact hxT (by rw [← z]; exact List.mem_of_mem_take z2)
        · rw [z2.1] at z; exact hxT (by rw [← z]; exact List.mem_of_getElem? hp)
      rw [updN_ne hne]
      exact b1 k hk he
    · rw [b2]
      exact List.countP_congr (fun k hk => by rw [e2 k hk])
  · rcases Nat.lt_or_ge j T.length with z | z
    · rw [List.getElem?_append_left z] at hj
      rw [same (List.mem_of_getElem? hj)]
      exact a7 j q hj
    · have hjl := (List.getElem?_eq_some_iff.mp hj).1
      rw [List.length_append, List.length_singleton] at hjl
      rw [List.getElem?_append_right z, show j - T.length = 0 by omega, List.getElem?_cons_zero] at hj
      cases hj
      rw [updN_at]
      have := a7 i p hp
      omega
  · have e : q ≠ x := fun z => by rw [z, w1] at hq; cases hq
    rw [updN_ne e]
    exact a8 q hq
  · rw [List.length_append, List.length_singleton, a9]
    refine (cp_one (lp c) x (up_nodup (lp_up hc)) ((lp_mem hc).mpr w1) ?_ ?_ (fun q _ hne => ?_)).symm
    · exact decide_eq_false (fun z => z h0)
    · rw [updN_at]; exact decide_eq_true (by omega)
    · rw [updN_ne hne]
theorem Q_next {c : Cfg} (hc : CfgOk c) {f op : Nat → Nat} {T : List Nat} {i p p' : Nat} (h : QOk c f op T i p (wbs c p) (f p)) (hp : T[i]? = some p) (hv : T[i + 1]? = some p' ∨ T.length ≤ i + 1) : QOk c f op T (i + 1) p' [] (if T.length ≤ i + 1 then f p else f p') := by
  obtain ⟨a1, a2, a3, a4, a5, a6, a7⟩ := h
  have le : T[i + 1]? = some p' → f p ≤ f p' := fun h => take_le T (i + 1) p' p a3 h (by rw [List.take_add_one, hp]; exact List.mem_append_right _ List.mem_cons_self)
  refine ⟨a1, a2, a3, fun q hq => ?_, a5, fun q hq h0 => ?_, a7⟩
  · have h1 := a4 q hq
    split
    · exact h1
    · rename_i z
      rcases hv with hv | hv
      · have := le hv; omega
      · exact absurd hv z
  · obtain ⟨b1, b2, b3⟩ := a6 q hq h0
    have e : ∀ k, k ∈ mvs c q → Eb T (i + 1) p' [] q k = Eb T i p (wbs c p) q k := fun k hk => by
      rw [Bool.eq_iff_iff, Eb_spec, Eb_spec, List.take_add_one, hp]
      constructor
      · rintro (z | ⟨_, z⟩)
        · rcases List.mem_append.mp z with z | z
          · exact Or.inl z
          · have z2 : tgt q k = p := by simpa using z
            exact Or.inr ⟨z2, by rw [← z2]; exact (move_way hc hq hk).2.1⟩
        · exact absurd z List.not_mem_nil
      · rintro (z | ⟨z, _⟩)
        · exact Or.inl (List.mem_append_left _ z)
        · exact Or.inl (List.mem_append_right _ (by rw [z]; exact List.mem_cons_self))
    refine ⟨fun k hk he => b1 k hk (by rw [← e k hk]; exact he), ?_, b3⟩
    rw [b2]
    exact List.countP_congr (fun k hk => by rw [e k hk])
theorem Q_end {c : Cfg} (hc : CfgOk c) {f op : Nat → Nat} {T : List Nat} {i p v : Nat} (h : QOk c f op T i p [] v) (hi : T.length ≤ i) : Sol c f ∧ ∀ q, f q < 2 ^ 20 := by
  obtain ⟨a1, a2, a3, a4, a5, a6, a7, a8, a9⟩ := h
  have tk : T.take i = T := List.take_of_length_le hi
  have hlen : T.length ≤ 336 := by rw [a9]; exact Nat.le_trans List.countP_le_length (lp_len hc)
  refine ⟨fun q hq k => ⟨fun hk => ?_, fun hC => ?_⟩, fun q => ?_⟩
  · have := a5 q ((a2 q).mpr ⟨hq, by omega⟩)
    rw [hk, Nat.add_sub_cancel] at this
    exact this
  · rcases Nat.eq_zero_or_pos (f q) with h0 | h0
    · exfalso
      obtain ⟨b1, b2, b3⟩ := a6 q hq h0
      have hE : ∀ k', k' ∈ mvs c q → (f (tgt q k') ≠ 0 → wonV (f (tgt q k')) = true) := fun k' hk' hn => b1 k' hk' (Eb_spec.mpr (Or.inl (by rw [tk]; exact (a2 _).mpr ⟨(move_way hc hq hk').1, hn⟩)))
      unfold Cnd at hC
      by_cases e : k % 2 = 0
      · rw [if_pos e] at hC
        rw [b2, List.countP_pos_iff] at b3
        obtain ⟨k', hk', hb⟩ := b3
        obtain ⟨j, j1, j2, j3⟩ := hC.1 _ _ (mvs_mem.mp hk').2
        have : Eb T i p [] q k' = true := Eb_spec.mpr (Or.inl (by rw [tk]; exact (a2 _).mpr ⟨(move_way hc hq hk').1, by unfold tgt; omega⟩))
        rw [this] at hb
        cases hb
      · rw [if_neg e] at hC
        obtain ⟨⟨a, b, m, z⟩, -⟩ := hC
        obtain ⟨k1, k2⟩ := mv_lt8 hc hq m
        have := hE _ k1 (by rw [k2]; omega)
        rw [k2, wonV_spec] at this
        omega
    · have h1 := a5 q ((a2 q).mpr ⟨hq, by omega⟩)
      have := Cnd_one h1 hC
      omega
  · rcases Nat.eq_zero_or_pos (f q) with h0 | h0
    · omega
    · have hq : posB c q = true := by
        cases e : posB c q
        · exact absurd (a8 q e) (by omega)
        · rfl
      obtain ⟨j, hj⟩ := List.getElem?_of_mem ((a2 q).mpr ⟨hq, by omega⟩)
      have h1 := a7 j q hj
      have h2 := (List.getElem?_eq_some_iff.mp hj).1
      omega
