/-! the reference counts over all the numbers -/
theorem up_eq : ∀ {l m : List Nat}, l.Pairwise (· < ·) → m.Pairwise (· < ·) → (∀ x, x ∈ l ↔ x ∈ m) → l = m
  | [], [], _, _, _ => rfl
  | [], b :: m, _, _, h => absurd ((h b).mpr (List.mem_cons_self ..)) (by simp)
  | a :: l, [], _, _, h => absurd ((h a).mp (List.mem_cons_self ..)) (by simp)
  | a :: l, b :: m, hl, hm, h => by
    obtain ⟨l1, l2⟩ := List.pairwise_cons.mp hl
    obtain ⟨m1, m2⟩ := List.pairwise_cons.mp hm
    have e : a = b := by
      rcases List.mem_cons.mp ((h a).mp (List.mem_cons_self ..)) with z | z
      · exact z
      · rcases List.mem_cons.mp ((h b).mpr (List.mem_cons_self ..)) with z2 | z2
        · exact z2.symm
        · have := m1 a z; have := l1 b z2; omega
    subst e
    rw [up_eq l2 m2 (fun x => ⟨fun hx => ?_, fun hx => ?_⟩)]
    · rcases List.mem_cons.mp ((h x).mp (List.mem_cons_of_mem _ hx)) with z | z
      · have := l1 x hx; omega
      · exact z
    · rcases List.mem_cons.mp ((h x).mpr (List.mem_cons_of_mem _ hx)) with z | z
      · have := m1 x hx; omega
      · exact z
/-- the positions below m -/
def pre (c : Cfg) (m : Nat) : List Nat := (List.range m).filter (posB c)
theorem pre_s (c : Cfg) (m : Nat) : pre c (m + 1) = if posB c m = true then pre c m ++ [m] else pre c m := by
  unfold pre
  rw [List.range_succ, List.filter_append, List.filter_cons, List.filter_nil]
  by_cases h : posB c m = true
  · rw [if_pos h, if_pos h]
  · rw [if_neg h, if_neg h, List.append_nil]
theorem pre_all {c : Cfg} (hc : CfgOk c) : pre c 1296 = lp c := by
  refine up_eq ?_ (lp_up hc) (fun x => ?_)
  · exact List.pairwise_lt_range.filter _
  · unfold pre
    rw [List.mem_filter, List.mem_range, lp_mem hc]
    exact ⟨fun h => h.2, fun h => ⟨(posB_spec.mp h).1, h⟩⟩
theorem pre_c1 {c : Cfg} {P : Nat → Bool} {m : Nat} (h : posB c m = true) (h2 : P m = true) : (pre c (m + 1)).countP P = (pre c m).countP P + 1 := by
  rw [pre_s, if_pos h, cp_app, if_pos h2]
theorem pre_c0 {c : Cfg} {P : Nat → Bool} {m : Nat} (h : posB c m = true → P m = false) : (pre c (m + 1)).countP P = (pre c m).countP P := by
  rw [pre_s]
  by_cases e : posB c m = true
  · rw [if_pos e, cp_app, h e, if_neg Bool.false_ne_true, Nat.add_zero]
  · rw [if_neg e]
theorem pre_l1 {c : Cfg} {m : Nat} (h : posB c m = true) : (pre c (m + 1)).length = (pre c m).length + 1 := by
  rw [pre_s, if_pos h, List.length_append, List.length_singleton]
theorem pre_l0 {c : Cfg} {m : Nat} (h : posB c m = false) : (pre c (m + 1)).length = (pre c m).length := by
  rw [pre_s, if_neg (by rw [h]; decide)]
theorem slv_pos {c : Cfg} (hc : CfgOk c) {m : Nat} (h : slv c m ≠ 0) : posB c m = true := by
  cases e : posB c m with
  | true => rfl
  | false => exact absurd (slv_out hc e) h
theorem ge1296 {m n : Nat} (h : m + (n + 1) = 1296) : ¬ (1296 : Int32) ≤ nI m := nI_ge (b := 1296) (by omega) (by decide)
theorem le1296 {m : Nat} (h : m + 0 = 1296) : (1296 : Int32) ≤ nI m := nI_le (a := 1296) (by omega) (by omega)
theorem M_count {v : MU} {A : Ab} {x : Int32} {b : Bool} {Q : Int32 → MU → Prop} (hI : RI v A) (hq : MPost (a_count A x b) Q) : w_X10_count x (bI b) v Q := by
  unfold a_count at hq
  unfold w_X10_count
  refine r_knows hI (fun v2 K2 => in3 (fun h => ?_) (fun h h2 => ?_) (fun h h2 => ?_))
  · rw [if_pos h] at hq
    exact ii0 (K2.rs (j := 0) hq rfl)
  · rw [if_neg h, if_pos h2] at hq
    exact ii0 (K2.rs (j := 0) hq rfl)
  · rw [if_neg h, if_neg h2] at hq
    have hc := K2.c
    have loop : ∀ n m, m + n = 1296 → wl_X10_count_24 Q (n + 1) x (bI b) (nI ((pre A.S.cfg m).countP (pCount A.S.cfg x b))) (nI m) v2 := by
      intro n
      induction n with
      | zero =>
        intro m hm
        rw [wl_X10_count_24]
        refine ⟨fun _ => ?_, fun z => absurd (le1296 hm) z⟩
        rw [show m = 1296 by omega, pre_all hc]
        exact K2.ret hq rfl
      | succ n ih =>
        intro m hm
        have IH := ih (m + 1) (by omega)
        obtain ⟨k1, k2⟩ := K2.2.2.2 m (by omega)
        rw [wl_X10_count_24]
        have no : (posB A.S.cfg m = true → pCount A.S.cfg x b m = false) → wb_X10_count_64 (fun x1' x2' x3' x4' u' => wl_X10_count_24 Q (n + 1) x1' x2' x3' x4' u') Q x (bI b) (nI ((pre A.S.cfg m).countP (pCount A.S.cfg x b))) (nI m) v2 := fun e x5 hx5 => by
          rw [hx5, nI_1]
          rw [pre_c0 e] at IH
          exact IH
        refine ⟨fun z => absurd z (ge1296 hm), fun _ => r_isPosition hc K2.R ?_⟩
        rw [posI_nI (by omega)]
        cases hp : posB A.S.cfg m with
        | false => exact jj0 (no (fun z => absurd (hp.symm.trans z) (by decide)))
        | true =>
          have hmc : (nI m).toNatClampNeg = m := nI_clamp (by omega)
          rw [hmc, k1]
          refine jj1 (r_tu (by omega) ⟨fun z => no (fun _ => ?_), fun z => ⟨vpos (by omega), fun z2 => no (fun _ => ?_), fun z2 x3 hx3 x5 hx5 => ?_⟩⟩)
          · unfold pCount; rw [decide_eq_false (fun e => z (tu_bI.mpr e))]; rfl
          · unfold pCount; rw [decide_eq_false z2, Bool.and_false]
          · rw [hx5, hx3, nI_1, nI_1]
            rw [pre_c1 hp (by unfold pCount; rw [decide_eq_true (tu_bI.mp z), decide_eq_true z2]; rfl)] at IH
            exact IH
    exact ii1 ⟨1297, loop 1296 0 (by omega)⟩
theorem pre_f1 {c : Cfg} {β : Type} {f : β → Nat → β} {b0 : β} {m : Nat} (h : posB c m = true) : (pre c (m + 1)).foldl f b0 = f ((pre c m).foldl f b0) m := by
  rw [pre_s, if_pos h, List.foldl_append]; rfl
theorem pre_f0 {c : Cfg} {β : Type} {f : β → Nat → β} {b0 : β} {m : Nat} (h : posB c m = true → f ((pre c m).foldl f b0) m = (pre c m).foldl f b0) : (pre c (m + 1)).foldl f b0 = (pre c m).foldl f b0 := by
  by_cases e : posB c m = true
  · rw [pre_f1 e, h e]
  · rw [pre_s, if_neg e]
theorem M_longest {v : MU} {A : Ab} {b : Bool} {Q : Int32 → MU → Prop} (hI : RI v A) (hq : MPost (a_longest A b) Q) : w_X10_longest (bI b) v Q := by
  unfold a_longest at hq
  unfold w_X10_longest
  refine r_knows hI (fun v2 K2 => ⟨1297, ?_⟩)
  have hc := K2.c
  have hb30 := slv_lt30 hc
  have loop : ∀ n m (B : Option Nat), m + n = 1296 → B = (pre A.S.cfg m).foldl (lgStep A.S.cfg b) none → (∀ q, B = some q → q < 1296) → wl_X10_longest_8 Q (n + 1) (bI b) (lgF B) (nI m) v2 := by
    intro n
    induction n with
    | zero =>
      intro m B hm hB hBq
      rw [wl_X10_longest_8]
      rw [show m = 1296 by omega, pre_all hc] at hB
      rw [← hB] at hq
      refine ⟨fun _ => ?_, fun z => absurd (le1296 hm) z⟩
      cases B with
      | none => exact ⟨fun z => absurd z (by decide), fun _ => K2.rs (j := 0) hq rfl⟩
      | some q =>
        have := hBq q rfl
        exact ⟨fun _ => K2.ret hq rfl, fun z => absurd (nI_le (a := 0) (by omega) (show q < 2 ^ 31 by omega)) z⟩
    | succ n ih =>
      intro m B hm hB hBq
      obtain ⟨k1, k2⟩ := K2.2.2.2 m (by omega)
      rw [wl_X10_longest_8]
      have no : (posB A.S.cfg m = true → lgStep A.S.cfg b B m = B) → wb_X10_longest_54 (fun x1' x2' x3' u' => wl_X10_longest_8 Q (n + 1) x1' x2' x3' u') Q (bI b) (lgF B) (nI m) v2 := fun e x5 hx5 => by
        rw [hx5, nI_1]
        exact ih (m + 1) B (by omega) (by rw [pre_f0 (fun h => by rw [← hB]; exact e h)]; exact hB) hBq
      have yes : posB A.S.cfg m = true → lgStep A.S.cfg b B m = some m → wb_X10_longest_52 (fun x1' x2' x3' u' => wl_X10_longest_8 Q (n + 1) x1' x2' x3' u') Q (bI b) (nI m) v2 := fun hp e x5 hx5 => by
        rw [hx5, nI_1]
        exact ih (m + 1) (some m) (by omega) (by rw [pre_f1 hp, ← hB, e]) (fun q hq => by cases hq; omega)
      have hmc : (nI m).toNatClampNeg = m := nI_clamp (by omega)
      rw [hmc, k1, k2]
      have noP : pCount A.S.cfg 1 b m = false → lgStep A.S.cfg b B m = B := fun e => by unfold lgStep; rw [e, if_neg Bool.false_ne_true]
      refine ⟨fun z => absurd z (ge1296 hm), fun _ => ⟨vpos (by omega), fun z => no (fun _ => noP ?_), fun z => r_tu (by omega) ⟨fun z2 => no (fun _ => noP ?_), fun z2 => ?_⟩⟩⟩
      · unfold pCount; rw [decide_eq_false z, Bool.and_false]
      · unfold pCount; rw [decide_eq_false (fun e => z2 (tu_bI.mpr e))]; rfl
      · have hP : pCount A.S.cfg 1 b m = true := by unfold pCount; rw [decide_eq_true (tu_bI.mp z2), decide_eq_true z]; rfl
        have hw := (outI_1 _).mp z
        have hp := slv_pos hc hw.1
        cases B with
        | none => exact ⟨fun _ => yes hp (by unfold lgStep; rw [if_pos hP]), fun z => absurd m1_lt z⟩
        | some q =>
          have hq2 := hBq q rfl
          obtain ⟨j1, j2⟩ := K2.2.2.2 q hq2
          show (nI q < 0 → _) ∧ (¬ nI q < 0 → vp_in (nI m) 1296 ∧ (vp_in (nI q) 1296 ∧ ((nv (slv A.S.cfg m) ≤ v2 127 (nI q).toNatClampNeg → _) ∧ (¬ nv (slv A.S.cfg m) ≤ v2 127 (nI q).toNatClampNeg → _))))
          rw [show (nI q).toNatClampNeg = q from nI_clamp (by omega), j2]
          refine ⟨fun z => absurd z (nI_pos (show q < 2 ^ 31 by omega)), fun _ => ⟨vpos (by omega), vpos hq2, fun z3 => no (fun _ => ?_), fun z3 => yes hp ?_⟩⟩
          · have := (nv_le (hb30 m) (hb30 q)).mp z3
            unfold lgStep
            rw [if_pos hP]
            show (if slv A.S.cfg q < slv A.S.cfg m then some m else some q) = some q
            rw [if_neg (by omega)]
          · have : ¬ slv A.S.cfg m ≤ slv A.S.cfg q := fun z5 => z3 ((nv_le (hb30 m) (hb30 q)).mpr z5)
            unfold lgStep
            rw [if_pos hP]
            show (if slv A.S.cfg q < slv A.S.cfg m then some m else some q) = some m
            rw [if_pos (by omega)]
  exact loop 1296 0 none (by omega) rfl (fun q h => by cases h)
theorem M_wonIn {v : MU} {A : Ab} {x : Int32} {Q : Int32 → MU → Prop} (hI : RI v A) (hq : MPost (a_wonIn A x) Q) : w_X10_wonIn x v Q := by
  unfold a_wonIn at hq
  unfold w_X10_wonIn
  refine r_knows hI (fun v2 K2 => ⟨fun h => ⟨1297, ?_⟩, fun h => ?_⟩)
  · rw [if_neg (fun z => (fa_of_lt z).2.1 h)] at hq
    have hc := K2.c
    have loop : ∀ n m, m + n = 1296 → wl_X10_wonIn_18 Q (n + 1) x (nI ((pre A.S.cfg m).countP (pIn A.S.cfg x))) (nI m) v2 := by
      intro n
      induction n with
      | zero =>
        intro m hm
        rw [wl_X10_wonIn_18]
        refine ⟨fun _ => ?_, fun z => absurd (le1296 hm) z⟩
        rw [show m = 1296 by omega, pre_all hc]
        exact K2.ret hq rfl
      | succ n ih =>
        intro m hm
        have IH := ih (m + 1) (by omega)
        obtain ⟨k1, k2⟩ := K2.2.2.2 m (by omega)
        rw [wl_X10_wonIn_18]
        have no : pIn A.S.cfg x m = false → wb_X10_wonIn_47 (fun x1' x2' x3' u' => wl_X10_wonIn_18 Q (n + 1) x1' x2' x3' u') Q x (nI ((pre A.S.cfg m).countP (pIn A.S.cfg x))) (nI m) v2 := fun e x5 hx5 => by
          rw [hx5, nI_1]
          rw [pre_c0 (fun _ => e)] at IH
          exact IH
        have hmc : (nI m).toNatClampNeg = m := nI_clamp (by omega)
        rw [hmc, k1, k2]
        refine ⟨fun z => absurd z (ge1296 hm), fun _ => ⟨vpos (by omega), fun z => no ?_, fun z => ⟨vpos (by omega), fun z2 => no ?_, fun z2 x3 hx3 x5 hx5 => ?_⟩⟩⟩
        · unfold pIn
          rw [(outI_0 _).mp z, nv_0]
          refine decide_eq_false (fun e => ?_)
          rw [← e] at h
          exact absurd h (by decide)
        · exact decide_eq_false z2
        · rw [hx5, hx3, nI_1, nI_1]
          rw [pre_c1 (slv_pos hc (fun e => z ((outI_0 _).mpr e))) (show pIn A.S.cfg x m = true from decide_eq_true z2)] at IH
          exact IH
    exact loop 1296 0 (by omega)
  · rw [if_pos (fa_of_nle h)] at hq
    exact K2.rs (j := 0) hq rfl
