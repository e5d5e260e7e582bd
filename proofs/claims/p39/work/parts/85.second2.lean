/-! THE SECOND WAY: all passes -/
def SF (u u' : MU) : Prop := ∀ a, a ≠ 105 → a ≠ 106 → a ≠ 107 → u' a = u a
theorem SF.rf (u : MU) : SF u u := fun _ _ _ _ => rfl
theorem SF.tr {u u' u'' : MU} (h1 : SF u u') (h2 : SF u' u'') : SF u u'' := fun a x y z => (h2 a x y z).trans (h1 a x y z)
theorem SF.put {j i : Nat} {u u' : MU} {x : Int32} (h1 : SF u u') (hj : j = 105 ∨ j = 106 ∨ j = 107) : SF u (u2 u' j i x) := h1.tr (fun a y z w => u2_ne (by omega))
theorem SF_FIs {k1 : Nat} {u u' : MU} {c : Cfg} (h : SF u u') (hk : k1 + 3 < 105) (hF : FIs u k1 c) : FIs u' k1 c := by
  unfold FIs
  rw [h k1 (by omega) (by omega) (by omega), h (k1 + 3) (by omega) (by omega) (by omega)]
  exact hF
def cntO (c : Cfg) (o : Nat → Nat) : Nat := (lp c).countP fun q => decide (o q ≠ 0)
/-- nothing but row 107 has changed -/
theorem s_pass {c : Cfg} (hc : CfgOk c) {k1 : Nat} (hk : k1 + 3 < 105) {u0 : MU} (hF : FIs u0 k1 c) (hA : RowL u0 106 (lp c)) {C0 : Nat} {pass : Int32} {L63 : Int32 → Int32 → Int32 → MU → Prop} {Q : MU → Prop}
    (hq : ∀ (u' : MU) (o' : Nat → Nat) (m' : Nat), OnlyR 107 u0 u' → SO c o' → OcI u' c o' → cntO c o' = C0 + m' → (m' = 0 → Closd c o') → L63 (nI (lp c).length) (nI m') (pass + 1) u') :
    ∀ (R D : List Nat) (o : Nat → Nat) (m : Nat) (u : MU), lp c = D ++ R → OnlyR 107 u0 u → SO c o → OcI u c o → cntO c o = C0 + m → (m = 0 → ∀ q, q ∈ D → o q = 0 → seenV o c q = 0) →
      wl_X5_solve_78 L63 k1 Q (R.length + 1) (nI (lp c).length) (nI m) pass (nI D.length) u := by
  have hl := lp_len hc
  intro R
  induction R with
  | nil =>
    intro D o m u hD hu hS hO hC hm
    rw [List.append_nil] at hD
    subst hD
    rw [List.length_nil, wl_X5_solve_78]
    refine ⟨fun _ x4 hx4 => ?_, fun z => absurd (nI_le (Nat.le_refl _) (by omega)) z⟩
    rw [hx4]
    exact hq u o m hu hS hO hC (fun e q hq h0 => hm e q ((lp_mem hc).mpr hq) h0)
  | cons p R ih =>
    intro D o m u hD hu hS hO hC hm
    have hlen : (lp c).length = D.length + (R.length + 1) := by rw [hD, List.length_append, List.length_cons]
    have hpl : p ∈ lp c := by rw [hD]; exact List.mem_append_right _ List.mem_cons_self
    have hpp := (lp_mem hc).mp hpl
    have hp2 := (posB_spec.mp hpp).1
    have hget : (lp c)[D.length]? = some p := by rw [hD, List.getElem?_append_right (Nat.le_refl _), Nat.sub_self]; rfl
    have hmb : C0 + m ≤ 336 := by
      rw [← hC]; exact Nat.le_trans List.countP_le_length hl
    have next : ∀ (o1 : Nat → Nat) (m1 : Nat) (u1 : MU), OnlyR 107 u0 u1 → SO c o1 → OcI u1 c o1 → cntO c o1 = C0 + m1 → (m1 = 0 → ∀ q, q ∈ D ++ [p] → o1 q = 0 → seenV o1 c q = 0) →
        wb_X5_solve_139 L63 (fun x2' x3' x4' x5' u' => wl_X5_solve_78 L63 k1 Q (R.length + 1) x2' x3' x4' x5' u') k1 Q (nI (lp c).length) (nI m1) pass (nI D.length) u1 := fun o1 m1 u1 g1 g2 g3 g4 g5 x5 hx5 => by
      rw [hx5, nI_1]
      have := ih (D ++ [p]) o1 m1 u1 (by rw [hD, List.append_assoc]; rfl) g1 g2 g3 g4 g5
      rw [List.length_append, List.length_singleton] at this
      exact this
    rw [List.length_cons, wl_X5_solve_78]
    refine ⟨fun z => absurd z (nI_ge (by omega) (by omega)), fun _ => s_at (N := 336) rfl (by omega) (by decide) ?_⟩
    rw [hu 106 (by decide), hA _ _ hget]
    refine s_at (N := 1296) rfl hp2 (by decide) ?_
    rw [hO p hpp]
    obtain ⟨-, -, i0⟩ := nI_2 (hS.1 p)
    refine ⟨fun z => ?_, fun z => ?_⟩
    · refine ⟨fun _ => next o m u hu hS hO hC (fun e q hq h0 => ?_), fun z2 => absurd rfl z2⟩
      rcases List.mem_append.mp hq with z2 | z2
      · exact hm e q z2 h0
      · rw [List.mem_singleton.mp z2] at h0
        exact absurd (i0.mpr h0) z
    · have hop : o p = 0 := i0.mp z
      refine s_seen hc (OnlyR_FIs hu (by omega) (by omega) hF) hS.1 hO hpp ?_
      have hs2 : seenV o c p ≤ 2 := by unfold seenV; split <;> (try split) <;> omega
      obtain ⟨-, -, j0⟩ := nI_2 hs2
      refine ⟨fun z2 => next o m u hu hS hO hC (fun e q hq h0 => ?_), fun z2 => s_put (N := 1296) rfl hp2 (by decide) (fun x3 hx3 => ?_)⟩
      · rcases List.mem_append.mp hq with z3 | z3
        · exact hm e q z3 h0
        · rw [List.mem_singleton.mp z3]; exact j0.mp z2
      · have hs : seenV o c p ≠ 0 := fun e => z2 (j0.mpr e)
        rw [hx3, nI_1]
        refine next (updN o p (seenV o c p)) (m + 1) _ (hu.tr OnlyR_u2) ⟨fun q => ?_, fun q hq h0 => ?_⟩ (fun q hq => ?_) ?_ (fun e => by omega)
        · by_cases e : q = p
          · rw [e, updN_at]; exact hs2
          · rw [updN_ne e]; exact hS.1 q
        · by_cases e : q = p
          · rw [e, updN_at]; exact seen_sound hc hS hpp hs
          · rw [updN_ne e] at h0 ⊢; exact hS.2 q hq h0
        · by_cases e : q = p
          · rw [e, u2_at, updN_at]
          · rw [u2_o (Or.inr e), updN_ne e]; exact hO q hq
        · have : cntO c (updN o p (seenV o c p)) = cntO c o + 1 := cp_one (lp c) p (up_nodup (lp_up hc)) hpl (decide_eq_false (fun z3 => z3 hop)) (by rw [updN_at]; exact decide_eq_true hs) (fun q _ hne => by rw [updN_ne hne])
          omega
theorem s_passes {c : Cfg} (hc : CfgOk c) {k1 : Nat} (hk : k1 + 3 < 105) {u0 : MU} (hF : FIs u0 k1 c) (hA : RowL u0 106 (lp c)) {Q : MU → Prop}
    (hq : ∀ (u' : MU), OnlyR 107 u0 u' → OcI u' c (fun q => oc (slv c q)) → Q u') :
    ∀ (n pass : Nat) (o : Nat → Nat) (m : Nat) (u : MU), n + pass = (lp c).length + 2 → pass ≤ (lp c).length + 1 → m ≤ 336 → OnlyR 107 u0 u → SO c o → OcI u c o → (m = 0 → Closd c o) → (0 < m → pass ≤ cntO c o) →
      wl_X5_solve_63 k1 Q n (nI (lp c).length) (nI m) (nI pass) u := by
  have hl := lp_len hc
  intro n
  induction n with
  | zero => intro pass o m u h1 h2; omega
  | succ n ih =>
    intro pass o m u h1 h2 h3 hu hS hO hm hp
    have hcl : cntO c o ≤ (lp c).length := List.countP_le_length
    have done : m = 0 → Q u := fun e => hq u hu (fun q hq => by rw [hO q hq, closed_all hc hS (hm e) q hq])
    rw [wl_X5_solve_63]
    refine ⟨fun z => done ?_, fun z => ⟨fun z2 => done ?_, fun z2 => ⟨(lp c).length + 1, ?_⟩⟩⟩
    · have := (nI_ltI (by omega) (by omega)).mp z
      rcases Nat.eq_zero_or_pos m with e | e
      · exact e
      · have := hp e; omega
    · rcases Nat.eq_zero_or_pos m with e | e
      · exact e
      · exact absurd z2 (nI_nle e (by omega))
    · have hm0 : 0 < m := by
        rcases Nat.eq_zero_or_pos m with e | e
        · exact absurd (by rw [e]; decide) z2
        · exact e
      have hpc := hp hm0
      refine s_pass hc hk hF hA (C0 := cntO c o) (fun u' o' m' g1 g2 g3 g4 g5 => ?_) (lp c) [] o 0 u rfl hu hS hO (by omega) (fun _ q hq => absurd hq List.not_mem_nil)
      rw [nI_1]
      have hcl' : cntO c o' ≤ (lp c).length := List.countP_le_length
      exact ih (pass + 1) o' m' u' (by omega) (by omega) (by omega) g1 g2 g3 g5 (fun _ => by omega)
theorem s_second_init {c : Cfg} (hc : CfgOk c) {k1 : Nat} (hk : k1 + 3 < 105) {u0 : MU} (hF : FIs u0 k1 c) (hA : RowL u0 106 (lp c)) {Q : MU → Prop}
    (hq : ∀ (u' : MU), OnlyR 107 u0 u' → OcI u' c (fun q => oc (slv c q)) → Q u') :
    ∀ (R D : List Nat) (u : MU), lp c = D ++ R → OnlyR 107 u0 u → (∀ q, q ∈ D → u 107 q = 0) → wl_X5_solve_31 k1 Q (R.length + 1) (nI (lp c).length) (nI D.length) u := by
  have hl := lp_len hc
  intro R
  induction R with
  | nil =>
    intro D u hD hu hN
    rw [List.append_nil] at hD
    subst hD
    rw [List.length_nil, wl_X5_solve_31]
    refine ⟨fun _ => ⟨(lp c).length + 2, ?_⟩, fun z => absurd (nI_le (Nat.le_refl _) (by omega)) z⟩
    refine s_passes hc hk hF hA hq ((lp c).length + 2) 0 (fun _ => 0) (lp c).length u (by omega) (by omega) hl hu ⟨fun _ => Nat.zero_le _, fun q _ h => absurd rfl h⟩ (fun q hq => hN q ((lp_mem hc).mpr hq)) (fun e q hq => ?_) (fun _ => Nat.zero_le _)
    have := (lp_mem hc).mpr hq
    rw [List.length_eq_zero_iff.mp e] at this
    exact absurd this List.not_mem_nil
  | cons p R ih =>
    intro D u hD hu hN
    have hlen : (lp c).length = D.length + (R.length + 1) := by rw [hD, List.length_append, List.length_cons]
    have hpl : p ∈ lp c := by rw [hD]; exact List.mem_append_right _ List.mem_cons_self
    have hp2 := (posB_spec.mp ((lp_mem hc).mp hpl)).1
    have hget : (lp c)[D.length]? = some p := by rw [hD, List.getElem?_append_right (Nat.le_refl _), Nat.sub_self]; rfl
    rw [List.length_cons, wl_X5_solve_31]
    refine ⟨fun z => absurd z (nI_ge (by omega) (by omega)), fun _ => s_at (N := 336) rfl (by omega) (by decide) ?_⟩
    rw [hu 106 (by decide), hA _ _ hget]
    refine s_put (N := 1296) rfl hp2 (by decide) (fun x3 hx3 => ?_)
    rw [hx3, nI_1]
    have := ih (D ++ [p]) (u2 u 107 p 0) (by rw [hD, List.append_assoc]; rfl) (hu.tr OnlyR_u2) (fun q hq => ?_)
    · rw [List.length_append, List.length_singleton] at this
      exact this
    · by_cases e : q = p
      · rw [e, u2_at]
      · rw [u2_o (Or.inr e)]
        rcases List.mem_append.mp hq with z | z
        · exact hN q z
        · exact absurd (List.mem_singleton.mp z) e
theorem s_second_new {c : Cfg} (hc : CfgOk c) {k1 : Nat} (hk : k1 + 3 < 105) {u : MU} (hF : FIs u k1 c) (hne : ¬ u 105 0 = u k1 4) {Q : MU → Prop}
    (hq : ∀ (u' : MU), SF u u' → u' 105 0 = u k1 4 → OcI u' c (fun q => oc (slv c q)) → Q u') : w_X5_solve k1 u Q := by
  unfold w_X5_solve
  refine ⟨fun _ u2' h2 => ?_, fun z => absurd z hne⟩
  have e1 : SF u u2' := by rw [h2]; exact (SF.rf u).put (Or.inl rfl)
  have e2 : u2' 105 0 = u k1 4 := by rw [h2]; exact u2_at
  refine s_listPositions hc (SF_FIs e1 hk hF) (by omega) (by omega) rfl (fun u4 o4 r4 => ⟨(lp c).length + 1, ?_⟩)
  have e4 : SF u u4 := e1.tr (fun a _ h _ => o4 a h)
  refine s_second_init hc hk (SF_FIs e4 hk hF) r4 (fun u' o' g => ?_) (lp c) [] u4 rfl (OnlyR.rf 107 u4) (fun q hq => absurd hq List.not_mem_nil)
  exact hq u' (e4.tr (fun a _ _ h => o' a h)) (by rw [o' 105 (by decide), o4 105 (by decide)]; exact e2) g
