/-! THE REFERENCE'S ROUNDS: a pass over all positions, all rounds -/
theorem any_list {c : Cfg} (hc : CfgOk c) {p : Nat} (hp : posB c p = true) (P : Nat → Bool) : anyM c p P = (mvs c p).any fun k => P (sh p (k / 8) (k % 8)) := by
  rw [Bool.eq_iff_iff, anyM_spec hc hp, List.any_eq_true]
  constructor
  · rintro ⟨a, b, m, h⟩
    obtain ⟨-, -, -, -, ha, hb⟩ := mv_wb hc hp m
    have e1 : (8 * a + b) / 8 = a := by omega
    have e2 : (8 * a + b) % 8 = b := by omega
    exact ⟨8 * a + b, mvs_mem.mpr ⟨by omega, by rw [e1, e2]; exact m⟩, by rw [e1, e2]; exact h⟩
  · rintro ⟨k, hk, h⟩
    exact ⟨_, _, (mvs_mem.mp hk).2, h⟩
theorem dec_list {c : Cfg} (hc : CfgOk c) {n p : Nat} (hp : posB c p = true) : decB c (rd c n) p = (won1 c n p (mvs c p) || lost1 c n p (mvs c p)) := by
  unfold decB won1 lost1
  rw [any_list hc hp, any_list hc hp, List.not_any_eq_all_not]
  simp only [Bool.not_not]
/-- the values in a pass of round n, the numbers below m done -/
def wm (c : Cfg) (n m q : Nat) : Nat := if posB c q = true then (if q < m then rd c (n + 1) q else rd c n q) else 0
def FL (v v' : MU) : Prop := ∀ k j, ¬ (k = 117 ∧ j = 25) → k ≠ 129 → k ≠ 130 → k ≠ 126 → k ≠ 127 → v' k j = v k j
theorem FL.rf (v : MU) : FL v v := fun _ _ _ _ _ _ _ => rfl
theorem FL.tr {v v' v'' : MU} (h1 : FL v v') (h2 : FL v' v'') : FL v v'' := fun k j a b d e f => (h2 k j a b d e f).trans (h1 k j a b d e f)
theorem FR.FL {v v' : MU} (h : FR v v') : FL v v' := fun k j a b d _ _ => h k j a b d
theorem FL.RIs {v v' : MU} {c : Cfg} (h : FL v v') (hR : RIs v c) : RIs v' c := ⟨(h _ _ (by decide) (by decide) (by decide) (by decide) (by decide)).trans hR.1, (h _ _ (by decide) (by decide) (by decide) (by decide) (by decide)).trans hR.2.1, (h _ _ (by decide) (by decide) (by decide) (by decide) (by decide)).trans hR.2.2⟩
theorem FL.RNear {v v' : MU} {c : Cfg} (h : FL v v') (hR : RNear v c) : RNear v' c := fun b hb => (h _ _ (by omega) (by decide) (by decide) (by decide) (by decide)).trans (hR b hb)
theorem OIs.FR {v v' : MU} {w : Nat → Nat} (h : FR v v') (hO : OIs v w) : OIs v' w := fun q hq => ⟨(h _ _ (by omega) (by decide) (by decide)).trans (hO q hq).1, (h _ _ (by omega) (by decide) (by decide)).trans (hO q hq).2⟩
theorem OIs.cong {v : MU} {w w' : Nat → Nat} (hO : OIs v w) (h : ∀ q, q < 1296 → w q = w' q) : OIs v w' := fun q hq => by rw [← h q hq]; exact hO q hq
theorem r_pass {c : Cfg} (hc : CfgOk c) {v0 : MU} (hR : RIs v0 c) (hN : RNear v0 c) {n : Nat} (hn : n < 2 ^ 20) {L33 : Int32 → Int32 → MU → Prop} {Q : MU → Prop}
    (hq : ∀ v' b', FL v0 v' → OIs v' (wm c (n + 1) 0) → (b' = true ↔ ∃ q, posB c q = true ∧ rd c (n + 1) q ≠ rd c n q) → L33 (bI b') (nI (n + 1)) v') :
    ∀ (r m : Nat) (v : MU) (b : Bool), m + r = 1296 → FL v0 v → OIs v (wm c n m) → (b = true ↔ ∃ q, q < m ∧ posB c q = true ∧ rd c (n + 1) q ≠ rd c n q) → wl_X10_looks_46 L33 Q (r + 1) (bI b) (nI n) (nI m) v := by
  intro r
  induction r with
  | zero =>
    intro m v b hm hf hO hb
    rw [wl_X10_looks_46]
    refine ⟨fun _ x hx => ?_, fun q => absurd (nI_le (a := 1296) (by omega) (by omega)) q⟩
    rw [hx, nI_1]
    refine hq v b hf (hO.cong (fun q h => ?_)) (hb.trans ⟨fun ⟨q, _, h2, h3⟩ => ⟨q, h2, h3⟩, fun ⟨q, h2, h3⟩ => ⟨q, by have := (posB_spec.mp h2).1; omega, h2, h3⟩⟩)
    unfold wm
    rw [if_pos (show q < m by omega), if_neg (Nat.not_lt_zero q)]
  | succ r ih =>
    intro m v b hm hf hO hb
    have hm2 : m < 1296 := by omega
    have hcl : (nI m).toNatClampNeg = m := nI_clamp (by omega)
    have hin : vp_in (nI m) 1296 := vp_in_nI hm2 (by decide)
    have hwm : wm c n m m = if posB c m = true then rd c n m else 0 := by unfold wm; rw [if_neg (Nat.lt_irrefl m)]
    -- nothing new at m
    have skip : ∀ v', FL v0 v' → OIs v' (wm c n m) → (posB c m = true → rd c (n + 1) m = rd c n m) → wb_X10_looks_240 L33 (fun x1' x2' x3' u' => wl_X10_looks_46 L33 Q (r + 1) x1' x2' x3' u') Q (bI b) (nI n) (nI m) v' := fun v' hf' hO' hs x hx => by
      rw [hx, nI_1]
      refine ih (m + 1) v' b (by omega) hf' (hO'.cong (fun q _ => ?_)) (hb.trans ⟨fun ⟨q, h1, h2, h3⟩ => ⟨q, by omega, h2, h3⟩, fun ⟨q, h1, h2, h3⟩ => ⟨q, ?_, h2, h3⟩⟩)
      · unfold wm
        by_cases hp : posB c q = true
        · rw [if_pos hp, if_pos hp]
          by_cases e : q = m
          · subst e; rw [if_neg (Nat.lt_irrefl q), if_pos (Nat.lt_succ_self q), hs hp]
          · by_cases e2 : q < m
            · rw [if_pos e2, if_pos (by omega)]
            · rw [if_neg e2, if_neg (by omega)]
        · rw [if_neg hp, if_neg hp]
      · rcases Nat.lt_or_ge q m with z | z
        · exact z
        · exact absurd (hs (by rw [show m = q by omega]; exact h2)) (by rw [show m = q by omega]; exact h3)
    rw [wl_X10_looks_46]
    refine ⟨fun q => absurd q (nI_ge (b := 1296) hm2 (by decide)), fun _ => ⟨hin, fun q => ?_, fun q => ?_⟩⟩
    · rw [hcl, (hO m hm2).1, hwm] at q
      have q2 : (if posB c m = true then rd c n m else 0) ≠ 0 := fun z => q ((outI_0 _).mpr z)
      refine skip v hf hO (fun hp => ?_)
      rw [if_pos hp] at q2
      exact rd_keep q2
    · rw [hcl, (hO m hm2).1, hwm] at q
      have q2 := (outI_0 _).mp q
      refine r_isPosition hc (hf.RIs hR) ?_
      rw [posI_nI (show m < 2 ^ 31 by omega)]
      refine bI_br2 (fun e => skip v hf hO (fun hp => by rw [e] at hp; cases hp)) (fun hp => ?_)
      rw [if_pos hp] at q2
      refine r_finds hc (hf.RIs hR) (hf.RNear hN) hp (fun v' f' l' => ⟨(mvs c m).length + 1, ?_⟩)
      have hO' := OIs.FR f' hO
      have hd := dec_list hc (n := n) hp
      have base := r_looks_in hc hn hp hO' (fun q hq => ?_) l' (L33 := L33) (L46 := fun x1' x2' x3' u' => wl_X10_looks_46 L33 Q (r + 1) x1' x2' x3' u') (Q := Q) (x1 := bI b) (fun x4 hx4 hdec => ?_) (fun hdec => ?_) (mvs c m) [] rfl
      · exact base
      · unfold wm
        rw [if_pos hq]
        split
        · rw [rd]
          split
          · exact Or.inl rfl
          · rename_i z
            have z0 : rd c n q = 0 := by omega
            split
            · exact Or.inr ⟨z0, rfl⟩
            · exact Or.inl z0.symm
        · exact Or.inl rfl
      · rw [← hd] at hdec
        have hnew : rd c (n + 1) m = n + 1 := by rw [rd, if_neg (by omega), if_pos hdec]
        -- the two writes
        have put : ∀ s0 : Int32, s0 = outI (n + 1) → wb_X10_looks_230 L33 (fun x1' x2' x3' u' => wl_X10_looks_46 L33 Q (r + 1) x1' x2' x3' u') Q (nI n) (nI m) s0 (nI m) v' := fun s0 hs0 => by
          unfold wb_X10_looks_230 wb_X10_looks_240
          rw [hcl]
          refine ⟨hin, fun a ha => ⟨hin, fun d hd2 x hx => ?_⟩⟩
          rw [hx, nI_1]
          have fd : FL v' d := fun k j _ _ _ q4 q5 => by rw [hd2, u2_o (Or.inl q5), ha, u2_o (Or.inl q4)]
          refine ih (m + 1) d true (by omega) ((hf.tr f'.FL).tr fd) (fun q hq => ?_) ⟨fun _ => ⟨m, by omega, hp, by omega⟩, fun _ => rfl⟩
          by_cases e : q = m
          · rw [e]
            have ew : wm c n (m + 1) m = n + 1 := by unfold wm; rw [if_pos hp, if_pos (Nat.lt_succ_self m), hnew]
            rw [ew, nv_s]
            refine ⟨?_, ?_⟩
            · rw [hd2, u2_o (Or.inl (by decide)), ha, u2_at, hs0]
            · rw [hd2, u2_at]
          · have ew : wm c n (m + 1) q = wm c n m q := by
              unfold wm
              by_cases e2 : q < m
              · rw [if_pos e2, if_pos (show q < m + 1 by omega)]
              · rw [if_neg e2, if_neg (show ¬ q < m + 1 by omega)]
            rw [ew, hd2, u2_o (Or.inl (by decide)), u2_o (Or.inr e), ha, u2_o (Or.inr e), u2_o (Or.inl (by decide))]
            exact hO' q hq
        unfold wb_X10_looks_215
        rw [hx4]
        refine bI_br (fun e => put 2 ?_) (fun e => put 1 ?_)
        · have hl : lost1 c n m (mvs c m) = true := by rw [hd, e, Bool.false_or] at hdec; exact hdec
          have := (rd_lost hc hp q2 (fun a b mm => by
            obtain ⟨-, -, -, -, ha, hb⟩ := mv_wb hc hp mm
            have e1 : (8 * a + b) / 8 = a := by omega
            have e2 : (8 * a + b) % 8 = b := by omega
            have hk : 8 * a + b ∈ mvs c m := mvs_mem.mpr ⟨by omega, by rw [e1, e2]; exact mm⟩
            have := List.all_eq_true.mp hl _ hk
            rw [e1, e2] at this
            exact wonV_spec.mp this)).1
          exact ((outI_2 _).mpr (by omega)).symm
        · obtain ⟨k, hk, h1⟩ := List.any_eq_true.mp e
          have := (rd_won hc hp q2 (mvs_mem.mp hk).2 (lostV_spec.mp h1)).1
          exact ((outI_1 _).mpr ⟨by omega, by omega⟩).symm
      · refine skip v' (hf.tr f'.FL) hO' (fun _ => ?_)
        rw [← hd] at hdec
        rw [rd, if_neg (by omega), if_neg (by rw [hdec]; exact Bool.false_ne_true), q2]
