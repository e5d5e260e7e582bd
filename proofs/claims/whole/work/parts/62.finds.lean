/-! THE REFERENCE FINDS THE MOVES -/
theorem sbt {m t : Nat} (hm : m < 2 ^ 31) (ht : t < 31) : (nI m >>> (nI t &&& 31)) &&& 1 = bI (m.testBit t) := by
  rw [pk_shrN hm _ t (s_l t (by omega)), show (1 : Int32) = nI (2 ^ 1 - 1) from rfl, fa_mask, Nat.pow_one, Nat.testBit_eq_decide_div_mod_eq]
  rcases (show m / 2 ^ t % 2 = 0 ∨ m / 2 ^ t % 2 = 1 by omega) with e | e <;> rw [e] <;> rfl
theorem bI_1 (b : Bool) : bI b = 1 ↔ b = true := by cases b <;> decide +kernel
theorem bI_n1 (b : Bool) : ¬ bI b = 1 ↔ b = false := by cases b <;> decide +kernel
def tkN (p : Nat) : Nat := (2 ^ fx p ||| 2 ^ fi p) ||| (if se p = 0 then 0 else 2 ^ (se p - 1))
theorem tkN_lt {p : Nat} (hp : p < 1296) : tkN p < 2 ^ 9 := by
  have h1 := fx_lt hp
  have h2 := fi_lt p
  have h3 := se_lt p
  unfold tkN
  refine Nat.or_lt_two_pow (Nat.or_lt_two_pow (Nat.pow_lt_pow_right (by decide) (by omega)) (Nat.pow_lt_pow_right (by decide) (by omega))) ?_
  split
  · decide
  · exact Nat.pow_lt_pow_right (by decide) (by omega)
theorem tkN_test (p i : Nat) : (tkN p).testBit i = tkB p i := by
  unfold tkN tkB
  rw [Nat.testBit_or, Nat.testBit_or, Nat.testBit_two_pow, Nat.testBit_two_pow]
  have e1 : decide (fx p = i) = decide (i = fx p) := by rw [decide_eq_decide]; exact ⟨Eq.symm, Eq.symm⟩
  have e2 : decide (fi p = i) = decide (i = fi p) := by rw [decide_eq_decide]; exact ⟨Eq.symm, Eq.symm⟩
  rw [e1, e2]
  congr 1
  by_cases h : se p = 0
  · rw [if_pos h, Nat.zero_testBit, decide_eq_false (by omega)]
  · rw [if_neg h, Nat.testBit_two_pow, decide_eq_decide]; omega
/-- the moves of the piece on b to burrows from t on -/
def cml (c : Cfg) (p b : Nat) : Nat → Nat → List Nat
  | 0, _ => []
  | n + 1, t => if mvB c p b t = true then (8 * b + t) :: cml c p b n (t + 1) else cml c p b n (t + 1)
theorem cml_len {c : Cfg} {p b : Nat} : ∀ n t, (cml c p b n t).length ≤ n
  | 0, _ => Nat.le_refl _
  | n + 1, t => by
    have := cml_len (c := c) (p := p) (b := b) n (t + 1)
    rw [cml]
    split
    · rw [List.length_cons]; omega
    · omega
/-- rows 129, 130 and the number show the list l of moves -/
def MLs (v : MU) (l : List Nat) : Prop := v 117 25 = nI l.length ∧ ∀ i k, l[i]? = some k → v 129 i = nI (k / 8) ∧ v 130 i = nI (k % 8)
/-- nothing else has changed -/
def FR (v v' : MU) : Prop := ∀ k j, ¬ (k = 117 ∧ j = 25) → k ≠ 129 → k ≠ 130 → v' k j = v k j
theorem FR.rf (v : MU) : FR v v := fun _ _ _ _ _ => rfl
theorem FR.tr {v v' v'' : MU} (h1 : FR v v') (h2 : FR v' v'') : FR v v'' := fun k j a b d => (h2 k j a b d).trans (h1 k j a b d)
theorem FR.RIs {v v' : MU} {c : Cfg} (h : FR v v') (hR : RIs v c) : RIs v' c := ⟨(h _ _ (by decide) (by decide) (by decide)).trans hR.1, (h _ _ (by decide) (by decide) (by decide)).trans hR.2.1, (h _ _ (by decide) (by decide) (by decide)).trans hR.2.2⟩
theorem FR.RNear {v v' : MU} {c : Cfg} (h : FR v v') (hR : RNear v c) : RNear v' c := fun b hb => (h _ _ (by omega) (by decide) (by decide)).trans (hR b hb)
theorem u2_at {μ : MU} {k j : Nat} {x : Int32} : u2 μ k j x k j = x := by rw [u2_same]; exact pk_us
theorem u2_o {μ : MU} {k j a i : Nat} {x : Int32} (h : a ≠ k ∨ i ≠ j) : u2 μ k j x a i = μ a i := by
  by_cases e : a = k
  · subst e
    rw [u2_same]
    exact pk_un (h.resolve_left (fun q => q rfl))
  · rw [u2_ne e]
theorem r_isTrap {v : MU} {c : Cfg} (hc : CfgOk c) (hR : RIs v c) {t : Nat} (ht : t < 31) {Q : Int32 → Prop} (h : Q (bI (c.traps.testBit t))) : w_X10_isTrap v (nI t) Q := by
  have := hc.ht
  unfold w_X10_isTrap
  rw [show ((1 : Int32)).toNatClampNeg = 1 from rfl, hR.2.1, sbt (by omega) ht]
  refine ⟨vp_in_nI (n := 1) (by decide) (by decide), fun q => ?_, fun q => ?_⟩
  · rw [(bI_n1 _).mp q] at h; exact h
  · rw [(bI_1 _).mp q] at h; exact h
theorem r_comes_loop {c : Cfg} (hc : CfgOk c) {v0 : MU} (hR : RIs v0 c) (hN : RNear v0 c) {p b : Nat} (hp : posB c p = true) (hb : b < c.n) (hpc : if tu p = 0 then b = fx p else b = fi p ∨ b + 1 = se p) {Q : MU → Prop} : ∀ (n t : Nat) (v : MU) (l : List Nat), t + n = c.n → FR v0 v → MLs v l → l.length + n ≤ 24 → (∀ v', FR v0 v' → MLs v' (l ++ cml c p b n t) → Q v') → wl_X10_comes_35 Q (n + 1) (nI p) (nI b) (nI (tkN p)) (nI t) v := by
  have hn := hc.hn
  have hp2 := (posB_spec.mp hp).1
  have htk := tkN_lt hp2
  intro n
  induction n with
  | zero =>
    intro t v l ht hf hl hlen hq
    rw [wl_X10_comes_35]
    refine ⟨vp_in_nI (n := 0) (by decide) (by decide), fun _ => ?_, fun q => absurd ?_ q⟩
    · have := hq v hf
      rw [cml, List.append_nil] at this
      exact this hl
    · rw [show ((0 : Int32)).toNatClampNeg = 0 from rfl, (hf.RIs hR).1, ← ht]
      exact nI_le (Nat.le_refl _) (by omega)
  | succ n ih =>
    intro t v l ht hf hl hlen hq
    have hRv := hf.RIs hR
    rw [wl_X10_comes_35]
    refine ⟨vp_in_nI (n := 0) (by decide) (by decide), fun q => absurd q ?_, fun _ => ⟨vp_in_nI (by omega) (by decide), ?_⟩⟩
    · rw [show ((0 : Int32)).toNatClampNeg = 0 from rfl, hRv.1]
      exact nI_ge (by omega) (by omega)
    · rw [nI_clamp (show b < 2 ^ 31 by omega), (hf.RNear hN) b (by omega), sbt (Nat.lt_trans (hc.hb b) (by decide)) (by omega), sbt (by omega) (by omega), tkN_test]
      -- on with the next burrow
      have skip : mvB c p b t = false → wb_X10_comes_123 (fun x1' x2' x3' x4' u' => wl_X10_comes_35 Q (n + 1) x1' x2' x3' x4' u') Q (nI p) (nI b) (nI (tkN p)) (nI t) v := fun e x hx => by
        rw [hx, nI_1]
        refine ih (t + 1) v l (by omega) hf hl (by omega) (fun v' h1 h2 => hq v' h1 ?_)
        rw [cml, if_neg (by rw [e]; exact Bool.false_ne_true)]
        exact h2
      have take : mvB c p b t = true → wb_X10_comes_95 (fun x1' x2' x3' x4' u' => wl_X10_comes_35 Q (n + 1) x1' x2' x3' x4' u') Q (nI p) (nI b) (nI (tkN p)) (nI t) v := fun e => by
        unfold wb_X10_comes_95 wb_X10_comes_123
        have hin : vp_in (v 117 25) 24 := by rw [hl.1]; exact vp_in_nI (by omega) (by decide)
        have hcl : (v 117 25).toNatClampNeg = l.length := by rw [hl.1]; exact nI_clamp (by omega)
        refine ⟨hin, fun a ha b2 hb2 => ?_⟩
        have a25 : a 117 25 = v 117 25 := by rw [ha]; exact u2_o (Or.inl (by decide))
        rw [a25] at hb2 ⊢
        refine ⟨hin, fun d hd x hx => ?_⟩
        rw [hcl] at ha hd
        rw [hx, nI_1]
        have fr : FR v d := fun k j q1 q2 q3 => by
          rw [hd, u2_o (Or.inl q3), hb2, u2_o (by omega), ha, u2_o (Or.inl q2)]
        have ls : MLs d (l ++ [8 * b + t]) := by
          refine ⟨?_, fun i k hk => ?_⟩
          · rw [hd, u2_o (Or.inl (by decide)), hb2, u2_at, hl.1, nI_1, List.length_append]; rfl
          · by_cases hi : i < l.length
            · rw [List.getElem?_append_left hi] at hk
              have := hl.2 i k hk
              rw [hd, u2_o (Or.inl (by decide)), u2_o (Or.inr (by omega)), hb2, u2_o (Or.inl (by decide)), u2_o (Or.inl (by decide)), ha, u2_o (Or.inr (by omega)), u2_o (Or.inl (by decide))]
              exact this
            · have hi2 : i = l.length := by
                have := (List.getElem?_eq_some_iff.mp hk).1
                rw [List.length_append, List.length_singleton] at this
                omega
              subst hi2
              rw [List.getElem?_append_right (Nat.le_refl _), Nat.sub_self] at hk
              cases hk
              rw [show (8 * b + t) / 8 = b by omega, show (8 * b + t) % 8 = t by omega]
              refine ⟨?_, ?_⟩
              · rw [hd, u2_o (Or.inl (by decide)), hb2, u2_o (Or.inl (by decide)), ha, u2_at]
              · rw [hd, u2_at]
        refine ih (t + 1) d (l ++ [8 * b + t]) (by omega) (hf.tr fr) ls (by rw [List.length_append, List.length_singleton]; omega) (fun v' h1 h2 => hq v' h1 ?_)
        rw [cml, if_pos e]
        rw [List.append_assoc] at h2
        exact h2
      have mv : mvB c p b t = ((c.near b).testBit t && !tkB p t && !c.traps.testBit t && (if tu p = 0 then true else decide (b < t))) := by
        unfold mvB
        by_cases q : tu p = 0
        · rw [if_pos q] at hpc; rw [if_pos q, if_pos q, decide_eq_true hpc]
        · rw [if_neg q] at hpc; rw [if_neg q, if_neg q]
          congr 1
          rcases hpc with z | z
          · rw [decide_eq_true z, Bool.true_or, Bool.true_and]
          · rw [decide_eq_true z, Bool.or_true, Bool.true_and]
      refine bI_br (fun e => skip (by rw [mv, e]; rfl)) (fun e => ⟨fun q => skip (by rw [mv, e, (bI_1 _).mp q]; rfl), fun q => r_isTrap hc hRv (by omega) (bI_br2 (fun e3 => r_tu hp2 ?_) (fun e3 => skip (by rw [mv, e, (bI_n1 _).mp q, e3]; rfl)))⟩)
      have e2 := (bI_n1 _).mp q
      rcases (show tu p = 0 ∨ tu p = 1 by have := tu_lt p; omega) with ht0 | ht0 <;> rw [ht0]
      · exact ⟨fun _ => take (by rw [mv, e, e2, e3, if_pos ht0]; rfl), fun q => absurd rfl q⟩
      · refine ⟨fun q => absurd q (by decide +kernel), fun _ => ⟨fun q => take ?_, fun q => skip ?_⟩⟩
        · have h1 := (nI_leI (by omega) (by omega)).mp q
          have h2 : b ≠ t := (hc.hin b t e).2.2
          rw [mv, e, e2, e3, if_neg (by omega), decide_eq_true (show b < t by omega)]; rfl
        · have h1 : ¬ b ≤ t := fun z => q (nI_le z (by omega))
          rw [mv, e, e2, e3, if_neg (by omega), decide_eq_false (show ¬ b < t by omega)]; rfl
