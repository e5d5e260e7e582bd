/-! the loop of bestPlace, as a fold -/
def isB (fp w : Nat) : Bool := if fp = 0 then decide (w = 0) else if fp % 2 = 0 then decide (w % 2 = 1) else decide (w ≠ 0) && decide (w % 2 = 0)
def bstep (fp : Nat) (B : Option (Nat × Nat)) (i w : Nat) : Option (Nat × Nat) :=
  if isB fp w = true then
    match B with
    | none => some (i, w)
    | some (b, y) => if fp ≠ 0 ∧ fp % 2 = 0 ∧ w < y ∨ fp % 2 = 1 ∧ y < w then some (i, w) else some (b, y)
  else B
def bfold (fp : Nat) : List Nat → Nat → Option (Nat × Nat) → Option (Nat × Nat)
  | [], _, B => B
  | w :: t, i, B => bfold fp t (i + 1) (bstep fp B i w)
def bInt (B : Option (Nat × Nat)) : Int32 := match B with
  | none => -1
  | some (b, _) => nI b
theorem isB_code {fp w : Nat} : (outI fp = 0 → (outI w = 0 ↔ isB fp w = true)) ∧ (¬ outI fp = 0 → (outI w = 3 - outI fp ↔ isB fp w = true)) := by
  unfold isB
  refine ⟨fun h => ?_, fun h => ?_⟩
  · rw [if_pos ((outI_0 fp).mp h), outI_0, decide_eq_true_eq]
  · have h0 : fp ≠ 0 := fun z => h ((outI_0 fp).mpr z)
    rw [if_neg h0]
    by_cases e : fp % 2 = 0
    · rw [if_pos e, (outI_1 fp).mpr ⟨h0, e⟩, show (3 : Int32) - 1 = 2 by decide +kernel, outI_2, decide_eq_true_eq]
    · rw [if_neg e, (outI_2 fp).mpr (by omega), show (3 : Int32) - 2 = 1 by decide +kernel, outI_1, Bool.and_eq_true, decide_eq_true_eq, decide_eq_true_eq]
theorem nv_le {a b : Nat} (ha : a < 2 ^ 30) (hb : b < 2 ^ 30) : nv a ≤ nv b ↔ a ≤ b := by
  rw [fa_le]
  unfold nv
  rw [show (1 : Int32) = nI 1 from rfl, pk_sub_toInt ha (by decide), pk_sub_toInt hb (by decide)]
  omega
theorem nv_lt {a b : Nat} (ha : a < 2 ^ 30) (hb : b < 2 ^ 30) : nv a < nv b ↔ a < b := by
  rw [fa_lt]
  unfold nv
  rw [show (1 : Int32) = nI 1 from rfl, pk_sub_toInt ha (by decide), pk_sub_toInt hb (by decide)]
  omega
theorem r_best_loop {c : Cfg} (hc : CfgOk c) {f : Nat → Nat} (hfb : ∀ q, f q < 2 ^ 20) {p : Nat} (hp : posB c p = true) {v : MU} (hS : SIs v c f) (hM : MLs v (mvs c p)) {Q : Int32 → MU → Prop}
    (hq : Q (bInt (bfold (f p) ((mvs c p).map fun k => f (sh p (k / 8) (k % 8))) 0 none)) v) :
    ∀ (t d : List Nat) (B : Option (Nat × Nat)), mvs c p = d ++ t → (∀ b y, B = some (b, y) → ∃ k, (mvs c p)[b]? = some k ∧ b < d.length ∧ y = f (sh p (k / 8) (k % 8)) ∧ isB (f p) y = true) →
      bfold (f p) (t.map fun k => f (sh p (k / 8) (k % 8))) d.length B = bfold (f p) ((mvs c p).map fun k => f (sh p (k / 8) (k % 8))) 0 none → wl_X10_bestPlace_9 Q (t.length + 1) (nI p) (bInt B) (nI d.length) v := by
  have hfl : (mvs c p).length ≤ 24 := by
    rw [← fl_mvs hc hp]
    have hcn := hc.hn
    unfold fl
    split
    · have := cml_len (c := c) (p := p) (b := fx p) c.n 0; omega
    · rw [List.length_append]
      have h1 := cml_len (c := c) (p := p) (b := fi p) c.n 0
      split
      · rw [List.length_nil]; omega
      · have := cml_len (c := c) (p := p) (b := se p - 1) c.n 0; omega
  have hp2 := (posB_spec.mp hp).1
  have hSp := hS p hp2
  simp only [if_pos hp] at hSp
  have hpin : vp_in (nI p) 1296 := vp_in_nI hp2 (by decide)
  have hpcl : (nI p).toNatClampNeg = p := nI_clamp (by omega)
  intro t
  induction t with
  | nil =>
    intro d B hd hB hfold
    rw [List.append_nil] at hd
    rw [List.length_nil, wl_X10_bestPlace_9]
    refine ⟨fun _ => ?_, fun q => absurd ?_ q⟩
    · rw [← hfold] at hq; exact hq
    · rw [hM.1, hd]; exact nI_le (Nat.le_refl _) (by rw [← hd]; omega)
  | cons k t ih =>
    intro d B hd hB hfold
    have hlen : (mvs c p).length = d.length + (t.length + 1) := by rw [hd, List.length_append, List.length_cons]
    have hk : (mvs c p)[d.length]? = some k := by rw [hd, List.getElem?_append_right (Nat.le_refl _), Nat.sub_self]; rfl
    have hk2 := mvs_mem.mp (List.mem_of_getElem? hk)
    have hrow := hM.2 d.length k hk
    have hpos := (mv_wb hc hp hk2.2).1
    have hq1 := (posB_spec.mp hpos).1
    have hSq := hS _ hq1
    simp only [if_pos hpos] at hSq
    have hcl : (nI (sh p (k / 8) (k % 8))).toNatClampNeg = sh p (k / 8) (k % 8) := nI_clamp (by omega)
    have hin : vp_in (nI (sh p (k / 8) (k % 8))) 1296 := vp_in_nI hq1 (by decide)
    have hw := hfb (sh p (k / 8) (k % 8))
    -- the next round, with the fold's best
    have next : ∀ B' : Option (Nat × Nat), bstep (f p) B d.length (f (sh p (k / 8) (k % 8))) = B' → (∀ b y, B' = some (b, y) → ∃ k, (mvs c p)[b]? = some k ∧ b < d.length + 1 ∧ y = f (sh p (k / 8) (k % 8)) ∧ isB (f p) y = true) → wl_X10_bestPlace_9 Q (t.length + 1) (nI p) (bInt B') (nI (d.length + 1)) v := fun B' e hB' => by
      have IH := ih (d ++ [k]) B' (by rw [hd, List.append_assoc]; rfl) (by rw [List.length_append, List.length_singleton]; exact hB') (by
        rw [List.length_append, List.length_singleton, ← e, ← hfold, List.map_cons, bfold])
      rw [List.length_append, List.length_singleton] at IH
      exact IH
    have keep : bstep (f p) B d.length (f (sh p (k / 8) (k % 8))) = B → wb_X10_bestPlace_176 (fun x1' x2' x3' u' => wl_X10_bestPlace_9 Q (t.length + 1) x1' x2' x3' u') Q (nI p) (bInt B) (nI d.length) v := fun e x hx => by
      rw [hx, nI_1]
      exact next B e (fun b y h => by obtain ⟨k', h1, h2, h3⟩ := hB b y h; exact ⟨k', h1, by omega, h3⟩)
    have take : isB (f p) (f (sh p (k / 8) (k % 8))) = true → bstep (f p) B d.length (f (sh p (k / 8) (k % 8))) = some (d.length, f (sh p (k / 8) (k % 8))) → wb_X10_bestPlace_174 (fun x1' x2' x3' u' => wl_X10_bestPlace_9 Q (t.length + 1) x1' x2' x3' u') Q (nI p) (nI d.length) v := fun hi e => by
      unfold wb_X10_bestPlace_174
      intro x hx
      rw [hx, nI_1]
      exact next _ e (fun b y h => by cases h; exact ⟨k, hk, by omega, rfl, hi⟩)
    have body : ∀ s0 : Bool, s0 = isB (f p) (f (sh p (k / 8) (k % 8))) → wb_X10_bestPlace_85 (fun x1' x2' x3' u' => wl_X10_bestPlace_9 Q (t.length + 1) x1' x2' x3' u') Q (nI p) (bInt B) (nI d.length) (nI (sh p (k / 8) (k % 8))) (bI s0) v := fun s0 hs => by
      unfold wb_X10_bestPlace_85
      refine bI_br2 (fun e => keep ?_) (fun e => ?_)
      · unfold bstep; rw [← hs, e, if_neg Bool.false_ne_true]
      · rw [e] at hs
        have hs2 := hs.symm
        cases B with
        | none =>
          refine ⟨fun q => absurd q (by decide +kernel), fun _ => ?_⟩
          unfold wb_X10_bestPlace_124
          exact ⟨fun _ => take hs2 (by unfold bstep; rw [if_pos hs2]), fun q => absurd m1_lt q⟩
        | some z =>
          obtain ⟨b, y⟩ := z
          obtain ⟨kb, b1, b2, b3, b4⟩ := hB b y rfl
          have hkb := mvs_mem.mp (List.mem_of_getElem? b1)
          have hrb := hM.2 b kb b1
          have hpb := (mv_wb hc hp hkb.2).1
          have hqb := (posB_spec.mp hpb).1
          have hSb := hS _ hqb
          simp only [if_pos hpb] at hSb
          have hclb : (nI (sh p (kb / 8) (kb % 8))).toNatClampNeg = sh p (kb / 8) (kb % 8) := nI_clamp (by omega)
          have hyb := hfb (sh p (kb / 8) (kb % 8))
          refine ⟨fun _ => ⟨vp_in_nI (by omega) (by decide), vp_in_nI (by omega) (by decide), ?_⟩, fun q => absurd (nI_pos' (by omega)) q⟩
          show w_X10_behind (nI p) (v 129 (nI b).toNatClampNeg) (v 130 (nI b).toNatClampNeg) _
          rw [nI_clamp (show b < 2 ^ 31 by omega), hrb.1, hrb.2]
          refine r_behind hc hp hkb.2 ⟨vp_in_nI hqb (by decide), ?_⟩
          rw [hclb, hSb.2, ← b3]
          unfold wb_X10_bestPlace_124 wb_X10_bestPlace_152
          rw [hpcl, hSp.1, hcl, hSq.2]
          have st : bstep (f p) (some (b, y)) d.length (f (sh p (k / 8) (k % 8))) = if f p ≠ 0 ∧ f p % 2 = 0 ∧ f (sh p (k / 8) (k % 8)) < y ∨ f p % 2 = 1 ∧ y < f (sh p (k / 8) (k % 8)) then some (d.length, f (sh p (k / 8) (k % 8))) else some (b, y) := by
            unfold bstep; rw [if_pos hs2]
          have y30 : y < 2 ^ 20 := by rw [b3]; exact hyb
          -- values compared as numbers: both are told when p is
          refine ⟨fun q => absurd q (nI_pos (by omega)), fun _ => ⟨hpin, fun q1 => ⟨hpin, fun q2 => keep ?_, fun q2 => ⟨hin, fun q3 => keep ?_, fun q3 => take hs2 ?_⟩⟩, fun q1 => ⟨hin, fun q2 => take hs2 ?_, fun q2 => ⟨hpin, fun q3 => keep ?_, fun q3 => absurd (q1.symm.trans q3) (by decide +kernel)⟩⟩⟩⟩
          · have e0 : f p = 0 := by
              rcases Nat.eq_zero_or_pos (f p) with z | z
              · exact z
              · exact absurd ((outI_1 (f p)).mpr ⟨by omega, by rcases Nat.mod_two_eq_zero_or_one (f p) with z2 | z2 <;> first | exact z2 | exact absurd ((outI_2 (f p)).mpr z2) q2⟩) q1
            rw [st, if_neg (by omega)]
          · have e1 := (outI_2 (f p)).mp q2
            have e2 := (nv_le (by omega) (by omega)).mp q3
            rw [st, if_neg (by omega)]
          · have e1 := (outI_2 (f p)).mp q2
            have e2 : ¬ f (sh p (k / 8) (k % 8)) ≤ y := fun z => q3 ((nv_le (by omega) (by omega)).mpr z)
            rw [st, if_pos (by omega)]
          · have e1 := (outI_1 (f p)).mp q1
            have e2 := (nv_lt (by omega) (by omega)).mp q2
            rw [st, if_pos (by omega)]
          · have e1 := (outI_1 (f p)).mp q1
            have e2 : ¬ f (sh p (k / 8) (k % 8)) < y := fun z => q2 ((nv_lt (by omega) (by omega)).mpr z)
            rw [st, if_neg (by omega)]
    refine ⟨fun q => absurd q (by rw [hM.1]; exact nI_ge (by omega) (by omega)), fun _ => ⟨vp_in_nI (by omega) (by decide), vp_in_nI (by omega) (by decide), ?_⟩⟩
    rw [nI_clamp (show d.length < 2 ^ 31 by omega), hrow.1, hrow.2]
    refine r_behind hc hp hk2.2 ⟨hpin, fun q => ⟨hin, hpin, ?_⟩, fun q => ⟨hin, ?_⟩⟩
    · rw [hpcl, hSp.1] at q ⊢
      rw [hcl, hSq.1]
      have := (isB_code (fp := f p) (w := f (sh p (k / 8) (k % 8)))).2 q
      refine ⟨fun z => body false ?_, fun z => body true (this.mp z).symm⟩
      cases e : isB (f p) (f (sh p (k / 8) (k % 8)))
      · rfl
      · exact absurd (this.mpr e) z
    · rw [hpcl, hSp.1] at q
      rw [hcl, hSq.1]
      have := (isB_code (fp := f p) (w := f (sh p (k / 8) (k % 8)))).1 q
      refine ⟨fun z => body false ?_, fun z => body true (this.mp z).symm⟩
      cases e : isB (f p) (f (sh p (k / 8) (k % 8)))
      · rfl
      · exact absurd (this.mpr e) z
