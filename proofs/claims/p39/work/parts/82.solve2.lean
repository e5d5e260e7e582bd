/-! solve whole: the start, then the queue -/
theorem TF2_TFr {k : Nat} {u u' : MU} (h : TF2 k u u') : TFr k u u' := fun a ha => h a (by omega) (by omega) (by omega)
theorem OnlyR_TFr {k j : Nat} {u u' : MU} (h : OnlyR j u u') (hj : k ≤ j ∧ j ≤ k + 4) : TFr k u u' := fun a ha => h a (by omega)
theorem q_T0_app (c : Cfg) (D : List Nat) (q : Nat) : q_T0 c (D ++ [q]) = q_T0 c D ++ (if (mvs c q).isEmpty = true then [q] else []) := by
  unfold q_T0
  rw [List.filter_append, List.filter_cons, List.filter_nil]
theorem s_solve_init {c : Cfg} (hc : CfgOk c) {k k1 : Nat} (hk : zkd k = 9) (hk1 : k1 + 3 < k) {u0 : MU} (hF : FIs u0 k1 c) (hz : u0 k 0 = nI (lp c).length) (hA : RowL u0 (k + 1) (lp c)) {Q : MU → Prop}
    (hq : ∀ (u' : MU) (f : Nat → Nat), TF2 k u0 u' → TIs u' k c f → Sol c f → (∀ q, f q < 2 ^ 20) → Q u') :
    ∀ (R D : List Nat) (u : MU), lp c = D ++ R → TF2 k u0 u → (∀ q, q ∈ D → u (k + 3) q = nv (q_f0 c q) ∧ u (k + 4) q = nI (q_op0 c q)) → RowL u (k + 2) (q_T0 c D) → wl_X7_solve_36 k k1 Q (R.length + 1) (nI (q_T0 c D).length) (nI D.length) u := by
  have hl := lp_len hc
  intro R
  induction R with
  | nil =>
    intro D u hD hu hN hT
    rw [List.append_nil] at hD
    subst hD
    rw [List.length_nil, wl_X7_solve_36]
    refine ⟨fun _ => ⟨337, ?_⟩, fun z => absurd ?_ z⟩
    · refine s_solve_loop hc hk hk1 hF hq 337 0 (q_f0 c) (q_op0 c) (q_T0 c (lp c)) u (by omega) (Nat.zero_le _) hu ⟨fun q hq => (hN q ((lp_mem hc).mpr hq)).1, fun q hq _ => (hN q ((lp_mem hc).mpr hq)).2, hT⟩ ?_
      by_cases hl0 : (q_T0 c (lp c)).length ≤ 0
      · exact Or.inr ⟨hl0, 0, 0, Q_start hc 0 0 (Nat.zero_le _)⟩
      · have hi : 0 < (q_T0 c (lp c)).length := by omega
        exact Or.inl ⟨_, List.getElem?_eq_getElem hi, Q_start hc _ _ (Nat.zero_le _)⟩
    · rw [hu k (by omega) (by omega) (by omega), hz]
      exact nI_le (Nat.le_refl _) (by omega)
  | cons p R ih =>
    intro D u hD hu hN hT
    have hlen : (lp c).length = D.length + (R.length + 1) := by rw [hD, List.length_append, List.length_cons]
    have hpl : p ∈ lp c := by rw [hD]; exact List.mem_append_right _ List.mem_cons_self
    have hpp := (lp_mem hc).mp hpl
    have hp2 := (posB_spec.mp hpp).1
    have hTl : (q_T0 c D).length ≤ D.length := List.length_filter_le _ _
    have hget : (lp c)[D.length]? = some p := by rw [hD, List.getElem?_append_right (Nat.le_refl _), Nat.sub_self]; rfl
    have hm64 := mvs_le (c := c) (p := p)
    rw [List.length_cons, wl_X7_solve_36]
    refine ⟨fun z => absurd z ?_, fun _ => s_at (zl9_1 hk) (by omega) (by decide) ?_⟩
    · rw [hu k (by omega) (by omega) (by omega), hz]
      exact nI_ge (by omega) (by omega)
    · rw [hu (k + 1) (by omega) (by omega) (by omega), hA _ _ hget]
      refine s_movesOf hc (TF2_FIs hu hk1 hF) hpp (s_bitCountL (Mv_lt c p) ?_)
      rw [show ctb (Mv c p) 64 = (mvs c p).length from (bl_ct (Mv c p)).symm]
      refine s_put (zl9_4 hk) hp2 (by decide) ?_
      -- the rest, with what is put and what is told
      have fin : ∀ u1 : MU, TF2 k u0 u1 → u1 (k + 3) p = nv (q_f0 c p) → u1 (k + 4) p = nI (q_op0 c p) → (∀ q, q ∈ D → q ≠ p → u1 (k + 3) q = nv (q_f0 c q) ∧ u1 (k + 4) q = nI (q_op0 c q)) → RowL u1 (k + 2) (q_T0 c (D ++ [p])) → wb_X7_solve_113 (fun x2' x3' u' => wl_X7_solve_36 k k1 Q (R.length + 1) x2' x3' u') k k1 Q (nI (q_T0 c (D ++ [p])).length) (nI D.length) u1 := fun u1 g1 g2 g3 g4 g5 x3 hx3 => by
        rw [hx3, nI_1]
        have := ih (D ++ [p]) u1 (by rw [hD, List.append_assoc]; rfl) g1 (fun q hq => ?_) g5
        · rw [List.length_append, List.length_singleton] at this
          exact this
        · by_cases e : q = p
          · rw [e]; exact ⟨g2, g3⟩
          · rcases List.mem_append.mp hq with z | z
            · exact g4 q z e
            · exact absurd (List.mem_singleton.mp z) e
      have olds : ∀ (x y : Int32) q, q ∈ D → q ≠ p → (u2 (u2 u (k + 4) p x) (k + 3) p y) (k + 3) q = nv (q_f0 c q) ∧ (u2 (u2 u (k + 4) p x) (k + 3) p y) (k + 4) q = nI (q_op0 c q) := fun x y q hq e => by
        rw [u2_o (Or.inr e), u2_o (Or.inl (by omega)), u2_o (Or.inl (by omega)), u2_o (Or.inr e)]
        exact hN q hq
      refine ⟨fun z => ?_, fun z => ?_⟩
      · unfold wb_X7_solve_92
        refine s_put (zl9_3 hk) hp2 (by decide) ⟨fun _ => ?_, fun z2 => absurd z2 z⟩
        have he : (mvs c p).isEmpty = false := by
          cases e : (mvs c p).isEmpty
          · rfl
          · rw [List.isEmpty_iff.mp e] at z; exact absurd rfl z
        have := fin (u2 (u2 u (k + 4) p (nI (mvs c p).length)) (k + 3) p (-1)) ((hu.put (Or.inr (Or.inr rfl))).put (Or.inr (Or.inl rfl))) (by rw [u2_at, qf0_no he, nv_0]) (by rw [u2_o (Or.inl (by omega)), u2_at]; rfl) (olds _ _) ?_
        · rw [q_T0_app, he, if_neg Bool.false_ne_true, List.append_nil] at this
          exact this
        · rw [q_T0_app, he, if_neg Bool.false_ne_true, List.append_nil]
          exact RowL_of (by rw [u2_ne (by omega), u2_ne (by omega)]) hT
      · have hl0 : (mvs c p).length = 0 := (nI_eq (b := 0) (by omega) (by decide)).mp z
        have he : (mvs c p).isEmpty = true := List.isEmpty_iff.mpr (List.length_eq_zero_iff.mp hl0)
        unfold wb_X7_solve_92
        refine s_put (zl9_3 hk) hp2 (by decide) ⟨fun z2 => absurd z z2, fun _ => s_put (zl9_2 hk) (by omega) (by decide) (fun x2 hx2 => ?_)⟩
        rw [hx2, nI_1]
        have e2 : q_T0 c (D ++ [p]) = q_T0 c D ++ [p] := by rw [q_T0_app, he, if_pos rfl]
        have := fin (u2 (u2 (u2 u (k + 4) p (nI (mvs c p).length)) (k + 3) p 0) (k + 2) (q_T0 c D).length (nI p)) (((hu.put (Or.inr (Or.inr rfl))).put (Or.inr (Or.inl rfl))).put (Or.inl rfl)) (by rw [u2_o (Or.inl (by omega)), u2_at, qf0_yes hpp he, nv_s]; rfl) (by rw [u2_o (Or.inl (by omega)), u2_o (Or.inl (by omega)), u2_at]; rfl) (fun q hq e => ?_) ?_
        · rw [e2, List.length_append, List.length_singleton] at this
          exact this
        · rw [u2_ne (show k + 3 ≠ k + 2 by omega), u2_ne (show k + 4 ≠ k + 2 by omega)]
          exact olds _ _ q hq e
        · rw [e2]
          exact RowL_push (RowL_of (by rw [u2_ne (by omega), u2_ne (by omega)]) hT)
/-- a table that shows the solution of c -/
def TbIs (u : MU) (k : Nat) (c : Cfg) (f : Nat → Nat) : Prop := u k 0 = nI (lp c).length ∧ RowL u (k + 1) (lp c) ∧ TIs u k c f
theorem s_solve_new {c : Cfg} (hc : CfgOk c) {k k1 : Nat} (hk : zkd k = 9) (hk1 : k1 + 3 < k) {u : MU} (hF : FIs u k1 c) (hne : ¬ u k 1 = u k1 4) {Q : MU → Prop}
    (hq : ∀ (u' : MU) (f : Nat → Nat), TFr k u u' → u' k 1 = u k1 4 → TbIs u' k c f → Sol c f → (∀ q, f q < 2 ^ 20) → Q u') : w_X7_solve k k1 u Q := by
  unfold w_X7_solve
  refine ⟨fun _ u2' h2 => ?_, fun z => absurd z hne⟩
  have e1 : TFr k u u2' := by rw [h2]; exact (TFr.rf k u).put ⟨by omega, by omega⟩
  have e2 : u2' k 1 = u k1 4 := by rw [h2]; exact u2_at
  refine s_listPositions hc (TFr_FIs e1 hk1 hF) (by omega) (by omega) (zl9_1 hk) (fun u4 o4 r4 u5 h5 => ?_)
  have e4 : TFr k u u4 := e1.tr (OnlyR_TFr o4 ⟨by omega, by omega⟩)
  have e5 : TFr k u u5 := by rw [h5]; exact e4.put ⟨by omega, by omega⟩
  have r5 : RowL u5 (k + 1) (lp c) := RowL_of (by rw [h5]; exact u2_ne (by omega)) r4
  have z5 : u5 k 0 = nI (lp c).length := by rw [h5]; exact u2_at
  have s5 : u5 k 1 = u k1 4 := by rw [h5, u2_o (Or.inr (by omega)), o4 k (by omega)]; exact e2
  refine ⟨(lp c).length + 1, ?_⟩
  refine s_solve_init hc hk hk1 (TFr_FIs e5 hk1 hF) z5 r5 (fun u' f g1 g2 g3 g4 => ?_) (lp c) [] u5 rfl (TF2.rf k u5) (fun q hq => absurd hq List.not_mem_nil) (fun i q h => by simp [q_T0] at h)
  have ek : u' k = u5 k := g1 k (by omega) (by omega) (by omega)
  exact hq u' f (e5.tr (TF2_TFr g1)) (by rw [ek]; exact s5) ⟨by rw [ek]; exact z5, RowL_of (g1 (k + 1) (by omega) (by omega) (by omega)) r5, g2⟩ g3 g4
