/-! THE REFERENCE'S ROUNDS: what one position gets in one round -/
def outI (w : Nat) : Int32 := if w = 0 then 0 else if w % 2 = 1 then 2 else 1
def OIs (v : MU) (w : Nat → Nat) : Prop := ∀ q, q < 1296 → v 126 q = outI (w q) ∧ v 127 q = nv (w q)
theorem outI_0 (w : Nat) : outI w = 0 ↔ w = 0 := by
  unfold outI
  by_cases h : w = 0
  · rw [if_pos h]; exact ⟨fun _ => h, fun _ => rfl⟩
  · rw [if_neg h]
    split
    · exact ⟨fun q => absurd q (by decide +kernel), fun q => absurd q h⟩
    · exact ⟨fun q => absurd q (by decide +kernel), fun q => absurd q h⟩
theorem outI_2 (w : Nat) : outI w = 2 ↔ w % 2 = 1 := by
  unfold outI
  by_cases h : w = 0
  · rw [if_pos h, h]; exact ⟨fun q => absurd q (by decide +kernel), fun q => absurd q (by decide)⟩
  · rw [if_neg h]
    split
    · rename_i h1; exact ⟨fun _ => h1, fun _ => rfl⟩
    · rename_i h1; exact ⟨fun q => absurd q (by decide +kernel), fun q => absurd q h1⟩
theorem outI_1 (w : Nat) : outI w = 1 ↔ w ≠ 0 ∧ w % 2 = 0 := by
  unfold outI
  by_cases h : w = 0
  · rw [if_pos h, h]; exact ⟨fun q => absurd q (by decide +kernel), fun q => absurd rfl q.1⟩
  · rw [if_neg h]
    split
    · exact ⟨fun q => absurd q (by decide +kernel), fun q => by omega⟩
    · exact ⟨fun _ => ⟨h, by omega⟩, fun _ => rfl⟩
theorem bI_and (a b : Bool) : bI a &&& bI b = bI (a && b) := by cases a <;> cases b <;> decide +kernel
theorem bI_or (a b : Bool) : bI a ||| bI b = bI (a || b) := by cases a <;> cases b <;> decide +kernel
def won1 (c : Cfg) (n p : Nat) (l : List Nat) : Bool := l.any fun k => lostV (rd c n (sh p (k / 8) (k % 8)))
def lost1 (c : Cfg) (n p : Nat) (l : List Nat) : Bool := l.all fun k => wonV (rd c n (sh p (k / 8) (k % 8)))
/-- one move looked at: w are the values now, among them those of this round (n + 1) -/
theorem r_looks_in {c : Cfg} (hc : CfgOk c) {n p : Nat} (hn : n < 2 ^ 20) (hp : posB c p = true) {v : MU} {w : Nat → Nat} (hO : OIs v w) (hw : ∀ q, posB c q = true → w q = rd c n q ∨ (rd c n q = 0 ∧ w q = n + 1)) (hM : MLs v (mvs c p)) {L33 : Int32 → Int32 → MU → Prop} {L46 : Int32 → Int32 → Int32 → MU → Prop} {Q : MU → Prop} {x1 : Int32}
    (h1 : ∀ x4, (x4 = bI (won1 c n p (mvs c p))) → (won1 c n p (mvs c p) || lost1 c n p (mvs c p)) = true → wb_X10_looks_215 L33 L46 Q (nI n) (nI p) x4 v)
    (h2 : (won1 c n p (mvs c p) || lost1 c n p (mvs c p)) = false → wb_X10_looks_240 L33 L46 Q x1 (nI n) (nI p) v) :
    ∀ (t d : List Nat), mvs c p = d ++ t → wl_X10_looks_87 L33 L46 Q (t.length + 1) x1 (nI n) (nI p) (bI (won1 c n p d)) (bI (lost1 c n p d)) (nI d.length) v := by
  have hl := mvs_le (c := c) (p := p)
  have hfl : (mvs c p).length ≤ 24 := by
    rw [← fl_mvs hc hp]
    have hcn := hc.hn
    unfold fl
    split
    · have := cml_len (c := c) (p := p) (b := fx p) c.n 0; omega
    · rw [List.length_append]
      have h1 := cml_len (c := c) (p := p) (b := fi p) c.n 0
      split
      · rw [List.length_nil]; omega
      · have := cml_len (c := c) (p := p) (b := se p - 1) c.n 0; omega
  intro t
  induction t with
  | nil =>
    intro d hd
    rw [List.append_nil] at hd
    subst hd
    rw [List.length_nil, wl_X10_looks_87]
    refine ⟨fun _ => ⟨fun q => ?_, fun q => ⟨fun q2 => ?_, fun q2 => ?_⟩⟩, fun q => absurd ?_ q⟩
    · exact h1 _ rfl (by rw [(bI_n0 _).mp q]; rfl)
    · exact h1 _ rfl (by rw [(bI_n0 _).mp q2, Bool.or_true])
    · exact h2 (by rw [(bI_0 _).mp q, (bI_0 _).mp q2]; rfl)
    · rw [hM.1]; exact nI_le (Nat.le_refl _) (by omega)
  | cons k t ih =>
    intro d hd
    have hlen : (mvs c p).length = d.length + (t.length + 1) := by rw [hd, List.length_append, List.length_cons]
    have hk : (mvs c p)[d.length]? = some k := by rw [hd, List.getElem?_append_right (Nat.le_refl _), Nat.sub_self]; rfl
    have hk2 := mvs_mem.mp (List.mem_of_getElem? hk)
    have hrow := hM.2 d.length k hk
    have hpos := (mv_wb hc hp hk2.2).1
    have hq := (posB_spec.mp hpos).1
    have hOq := hO _ hq
    have hcl : (nI (sh p (k / 8) (k % 8))).toNatClampNeg = sh p (k / 8) (k % 8) := nI_clamp (by omega)
    have IH := ih (d ++ [k]) (by rw [hd, List.append_assoc]; rfl)
    rw [List.length_append, List.length_singleton] at IH
    have ew : won1 c n p (d ++ [k]) = (won1 c n p d || lostV (rd c n (sh p (k / 8) (k % 8)))) := by unfold won1; rw [List.any_append]; simp
    have el : lost1 c n p (d ++ [k]) = (lost1 c n p d && wonV (rd c n (sh p (k / 8) (k % 8)))) := by unfold lost1; rw [List.all_append]; simp
    rw [ew, el] at IH
    rw [List.length_cons, wl_X10_looks_87]
    refine ⟨fun q => absurd q (by rw [hM.1]; exact nI_ge (by omega) (by omega)), fun _ => ⟨vp_in_nI (by omega) (by decide), vp_in_nI (by omega) (by decide), ?_⟩⟩
    rw [nI_clamp (show d.length < 2 ^ 31 by omega), hrow.1, hrow.2]
    refine r_behind hc hp hk2.2 ?_
    rw [hcl, hOq.1, hOq.2]
    have hin : vp_in (nI (sh p (k / 8) (k % 8))) 1296 := vp_in_nI hq (by decide)
    generalize hX : rd c n (sh p (k / 8) (k % 8)) = r at *
    generalize hY : w (sh p (k / 8) (k % 8)) = y at *
    have hwy := hw _ hpos
    rw [hX, hY] at hwy
    have hrl : r ≤ n := by rw [← hX]; exact rd_le n
    -- the end of a round of the loop, with both answers
    have fin : ∀ a b : Bool, a = lostV r → b = wonV r → wb_X10_looks_193 L33 L46 (fun x1' x2' x3' x4' x5' x6' u' => wl_X10_looks_87 L33 L46 Q (t.length + 1) x1' x2' x3' x4' x5' x6' u') Q x1 (nI n) (nI p) (bI (won1 c n p d || a)) (nI d.length) (bI b) (bI (lost1 c n p d)) v := fun a b ha hb x5 hx5 x6 hx6 => by
      rw [hx5, hx6, bI_and, nI_1, ha, hb]
      exact IH
    have old : r = 0 → wb_X10_looks_141 L33 L46 (fun x1' x2' x3' x4' x5' x6' u' => wl_X10_looks_87 L33 L46 Q (t.length + 1) x1' x2' x3' x4' x5' x6' u') Q x1 (nI n) (nI p) (bI (won1 c n p d)) (bI (lost1 c n p d)) (nI d.length) (nI (sh p (k / 8) (k % 8))) v := fun hr => by
      unfold wb_X10_looks_141 wb_X10_looks_142 wb_X10_looks_166 wb_X10_looks_167 wb_X10_looks_192
      refine ⟨fun _ x4 hx4 => ⟨fun _ => ?_, fun q => absurd rfl q⟩, fun q => absurd rfl q⟩
      rw [hx4, show (0 : Int32) = bI false from rfl, bI_or]
      exact fin false false (by rw [hr]; rfl) (by rw [hr]; rfl)
    refine ⟨hin, fun q => old ?_, fun q => ⟨hin, fun q2 => old ?_, fun q2 => ?_⟩⟩
    · have := (outI_0 y).mp q; omega
    · have hy0 : y ≠ 0 := fun z => q ((outI_0 y).mpr z)
      obtain ⟨j, rfl⟩ : ∃ j, y = j + 1 := ⟨y - 1, by omega⟩
      rw [nv_s] at q2
      have := (nI_leI (by omega) (by omega)).mp q2
      omega
    · have hy0 : y ≠ 0 := fun z => q ((outI_0 y).mpr z)
      obtain ⟨j, rfl⟩ : ∃ j, y = j + 1 := ⟨y - 1, by omega⟩
      rw [nv_s] at q2
      have hjn : ¬ n ≤ j := fun z => q2 (nI_le z (by omega))
      have hr : r = j + 1 := by omega
      unfold wb_X10_looks_142 wb_X10_looks_166 wb_X10_looks_167 wb_X10_looks_192
      rw [hcl, hOq.1]
      have tail : ∀ a : Bool, a = lostV r → ∀ x4 : Int32, x4 = bI (won1 c n p d) ||| bI a → (((1 : Int32) = 0 → wb_X10_looks_193 L33 L46 (fun x1' x2' x3' x4' x5' x6' u' => wl_X10_looks_87 L33 L46 Q (t.length + 1) x1' x2' x3' x4' x5' x6' u') Q x1 (nI n) (nI p) x4 (nI d.length) 0 (bI (lost1 c n p d)) v) ∧ (¬ (1 : Int32) = 0 → vp_in (nI (sh p (k / 8) (k % 8))) 1296 ∧ ((¬ outI (j + 1) = 1 → wb_X10_looks_193 L33 L46 (fun x1' x2' x3' x4' x5' x6' u' => wl_X10_looks_87 L33 L46 Q (t.length + 1) x1' x2' x3' x4' x5' x6' u') Q x1 (nI n) (nI p) x4 (nI d.length) 0 (bI (lost1 c n p d)) v) ∧ (outI (j + 1) = 1 → wb_X10_looks_193 L33 L46 (fun x1' x2' x3' x4' x5' x6' u' => wl_X10_looks_87 L33 L46 Q (t.length + 1) x1' x2' x3' x4' x5' x6' u') Q x1 (nI n) (nI p) x4 (nI d.length) 1 (bI (lost1 c n p d)) v)))) := fun a ha x4 hx4 => by
        rw [hx4, bI_or]
        refine ⟨fun z => absurd z (by decide +kernel), fun _ => ⟨hin, fun z => fin a false ha ?_, fun z => fin a true ha ?_⟩⟩
        · cases e : wonV r
          · rfl
          · exact absurd ((outI_1 (j + 1)).mpr (by rw [← hr]; exact wonV_spec.mp e)) z
        · rw [hr]; exact (wonV_spec.mpr ((outI_1 (j + 1)).mp z)).symm
      refine ⟨fun z => absurd z (by decide +kernel), fun _ => ⟨hin, fun z => tail false ?_, fun z => tail true ?_⟩⟩
      · cases e : lostV r
        · rfl
        · exact absurd ((outI_2 (j + 1)).mpr (by rw [← hr]; exact lostV_spec.mp e)) z
      · rw [hr]; exact (lostV_spec.mpr ((outI_2 (j + 1)).mp z)).symm
