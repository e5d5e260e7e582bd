/-! the class's reader: commands, whole texts -/
theorem kindI {n m : Nat} (h : n < 65536) (hm : m < 65536) : nI n = nI m ↔ n = m := nI_eq (by omega) (by omega)
theorem s_digitsOf {n : Nat} (h : n < 65536) {Q : Int32 → Prop} (hq : Q (optI (dOf n))) : w_X3_digitsOf (nI n) Q := by
  unfold dOf at hq
  unfold w_X3_digitsOf
  have K : ∀ m : Nat, m < 65536 → (nI n = nI m ↔ n = m) := fun m hm => kindI h hm
  refine ⟨fun e => ?_, fun e1 => ⟨fun e => ?_, fun e2 => ⟨fun e => ?_, fun e3 => ⟨fun e => ?_, fun e4 => ⟨fun e => ?_, fun e5 => ⟨fun e => ?_, fun e6 => ⟨fun e => ?_, fun e7 => ⟨fun e => ?_, fun e8 => ⟨fun e => ?_, fun e9 => ⟨fun e => ?_, fun e10 => ?_⟩⟩⟩⟩⟩⟩⟩⟩⟩⟩
  · rw [if_pos ((K 97 (by decide)).mp e)] at hq; exact hq
  all_goals have f1 : ¬ n = 97 := fun z => e1 ((K 97 (by decide)).mpr z)
  all_goals rw [if_neg f1] at hq
  · rw [if_pos ((K 98 (by decide)).mp e)] at hq; exact hq
  all_goals have f2 : ¬ n = 98 := fun z => e2 ((K 98 (by decide)).mpr z)
  all_goals rw [if_neg f2] at hq
  · rw [if_pos ((K 100 (by decide)).mp e)] at hq; exact hq
  all_goals have f3 : ¬ n = 100 := fun z => e3 ((K 100 (by decide)).mpr z)
  all_goals rw [if_neg f3] at hq
  · rw [if_pos ((K 102 (by decide)).mp e)] at hq; exact hq
  all_goals have f4 : ¬ n = 102 := fun z => e4 ((K 102 (by decide)).mpr z)
  all_goals rw [if_neg f4] at hq
  · rw [if_pos ((K 103 (by decide)).mp e)] at hq; exact hq
  all_goals have f5 : ¬ n = 103 := fun z => e5 ((K 103 (by decide)).mpr z)
  all_goals rw [if_neg f5] at hq
  · rw [if_pos ((K 109 (by decide)).mp e)] at hq; exact hq
  all_goals have f6 : ¬ n = 109 := fun z => e6 ((K 109 (by decide)).mpr z)
  all_goals rw [if_neg f6] at hq
  · rw [if_pos ((K 112 (by decide)).mp e)] at hq; exact hq
  all_goals have f7 : ¬ n = 112 := fun z => e7 ((K 112 (by decide)).mpr z)
  all_goals rw [if_neg f7] at hq
  · rw [if_pos ((K 116 (by decide)).mp e)] at hq; exact hq
  all_goals have f8 : ¬ n = 116 := fun z => e8 ((K 116 (by decide)).mpr z)
  all_goals rw [if_neg f8] at hq
  · rw [if_pos ((K 117 (by decide)).mp e)] at hq; exact hq
  all_goals have f9 : ¬ n = 117 := fun z => e9 ((K 117 (by decide)).mpr z)
  all_goals rw [if_neg f9] at hq
  · rw [if_pos ((K 120 (by decide)).mp e)] at hq; exact hq
  have f10 : ¬ n = 120 := fun z => e10 ((K 120 (by decide)).mpr z)
  rw [if_neg f10] at hq
  exact hq
theorem s_markOf {n : Nat} (h : n < 65536) {Q : Int32 → Prop} (hq : Q (nI (mOf n))) : w_X3_markOf (nI n) Q := by
  unfold mOf at hq
  unfold w_X3_markOf
  have K : ∀ m : Nat, m < 65536 → (nI n = nI m ↔ n = m) := fun m hm => kindI h hm
  refine ⟨fun e => ?_, fun e1 => ⟨fun e => ?_, fun e2 => ⟨fun e => ?_, fun e3 => ?_⟩⟩⟩
  · rw [if_pos ((K 109 (by decide)).mp e)] at hq; exact hq
  · rw [if_neg (fun z => e1 ((K 109 (by decide)).mpr z)), if_pos ((K 112 (by decide)).mp e)] at hq; exact hq
  · rw [if_neg (fun z => e1 ((K 109 (by decide)).mpr z)), if_neg (fun z => e2 ((K 112 (by decide)).mpr z)), if_pos ((K 120 (by decide)).mp e)] at hq; exact hq
  · rw [if_neg (fun z => e1 ((K 109 (by decide)).mpr z)), if_neg (fun z => e2 ((K 112 (by decide)).mpr z)), if_neg (fun z => e3 ((K 120 (by decide)).mpr z))] at hq; exact hq
theorem mOf_lt (n : Nat) : mOf n < 65 := by unfold mOf; split <;> (try split) <;> (try split) <;> decide
theorem dOf_le {n d : Nat} (h : dOf n = some d) : d ≤ 4 := by
  unfold dOf at h
  repeat' (split at h)
  all_goals first | (cases h; decide) | cases h
theorem RdC_PF {u u' : MU} {cs : List Cmd} (h : PF u u') (hR : RdC u cs) : RdC u' cs := ⟨by rw [h.2 0 (by decide)]; exact hR.1, fun m c hm => by rw [h.1 113 (by decide), h.1 114 (by decide), h.1 115 (by decide)]; exact hR.2 m c hm⟩
def RF4 (u u' : MU) : Prop := ∀ a, (a < 112 ∨ 115 < a) → u' a = u a
theorem PF.R {u u' : MU} (h : PF u u') : RF4 u u' := fun a ha => h.1 a (by omega)
theorem RF4.tr {u u' u'' : MU} (h1 : RF4 u u') (h2 : RF4 u' u'') : RF4 u u'' := fun a ha => (h2 a ha).trans (h1 a ha)
theorem RF4.T {u u' : MU} {T : List Int32} (h : RF4 u u') (hT : TxI u 108 T) : TxI u' 108 T := TxI_of (h _ (by omega)) (h _ (by omega)) hT
/-- what a command read must lead to -/
def RdQ (u : MU) (cs : List Cmd) (Q : Int32 → MU → Prop) : Nat ⊕ (Nat × Cmd) → Prop
  | .inl p => ∀ u', RF4 u u' → u' 112 4 = nI p → Q 0 u'
  | .inr (j, c) => ∀ u', RF4 u u' → u' 112 4 = nI j → RdC u' (cs ++ [c]) → Q 1 u'
theorem s_store {u0 u : MU} {cs : List Cmd} (hf : PF u0 u) (hR : RdC u0 cs) (hl : cs.length < 30) {k one v j : Nat} (hv : v < 2 ^ 31) (hp : u 112 4 = nI j) {Q : Int32 → MU → Prop} (hq : ∀ u', RF4 u0 u' → u' 112 4 = nI j → RdC u' (cs ++ [(k, (one, v))]) → Q 1 u') : wb_X3_isCommand_104 108 Q (nI k) (nI one) (nI v) u := by
  obtain ⟨r0, r1⟩ := RdC_PF hf hR
  unfold wb_X3_isCommand_104
  refine ⟨fun _ => ?_, fun z => absurd z (opAns hv)⟩
  rw [r0]
  refine s_put (N := 30) rfl hl (by decide) ?_
  rw [u2_ne (show (112 : Nat) ≠ 113 by decide), r0]
  refine s_put (N := 30) rfl hl (by decide) ?_
  rw [u2_ne (show (112 : Nat) ≠ 114 by decide), u2_ne (show (112 : Nat) ≠ 113 by decide), r0]
  refine s_put (N := 30) rfl hl (by decide) (fun a8 e8 => ?_)
  rw [u2_ne (show (112 : Nat) ≠ 115 by decide), u2_ne (show (112 : Nat) ≠ 114 by decide), u2_ne (show (112 : Nat) ≠ 113 by decide), r0, nI_1] at e8
  refine hq a8 (fun a ha => ?_) ?_ ⟨?_, fun m c hm => ?_⟩
  · rw [e8, u2_ne (by omega), u2_ne (by omega), u2_ne (by omega), u2_ne (by omega)]; exact hf.R a ha
  · rw [e8, u2_o (Or.inr (by decide)), u2_ne (by decide), u2_ne (by decide), u2_ne (by decide)]; exact hp
  · rw [e8, u2_at, List.length_append]; rfl
  · rw [e8, u2_ne (show (113 : Nat) ≠ 112 by decide), u2_ne (show (114 : Nat) ≠ 112 by decide), u2_ne (show (115 : Nat) ≠ 112 by decide), u2_ne (show (113 : Nat) ≠ 115 by decide), u2_ne (show (114 : Nat) ≠ 115 by decide), u2_ne (show (113 : Nat) ≠ 114 by decide)]
    rcases Nat.lt_or_ge m cs.length with z | z
    · rw [List.getElem?_append_left z] at hm
      obtain ⟨c1, c2, c3⟩ := r1 m c hm
      have hne : m ≠ cs.length := by omega
      rw [u2_o (Or.inr hne), u2_o (Or.inr hne), u2_ne (show (114 : Nat) ≠ 113 by decide), u2_o (Or.inr hne), u2_ne (show (115 : Nat) ≠ 114 by decide), u2_ne (show (115 : Nat) ≠ 113 by decide)]
      exact ⟨c1, c2, c3⟩
    · have hml := (List.getElem?_eq_some_iff.mp hm).1
      rw [List.length_append, List.length_singleton] at hml
      have hm2 : m = cs.length := by omega
      subst hm2
      rw [List.getElem?_append_right (Nat.le_refl _), Nat.sub_self, List.getElem?_cons_zero] at hm
      cases hm
      exact ⟨u2_at, u2_at, u2_at⟩
theorem s_isCommand {T : List Int32} (hc : chT T) {u : MU} (hT : TxI u 108 T) {cs : List Cmd} (hR : RdC u cs) {i : Nat} (hi : i ≤ 61) (h2 : 2 * cs.length ≤ i) (hp : u 112 4 = nI i) {Q : Int32 → MU → Prop} (hq : RdQ u cs Q (cmdAt T i)) : w_X3_isCommand 108 u Q := by
  obtain ⟨g1, g2⟩ := sg_lt hc i
  have h60 := hc.1
  unfold cmdAt at hq
  unfold w_X3_isCommand
  rw [hp]
  refine s_sg hT hc (by omega) (s_digitsOf g1 ?_)
  cases hd : dOf (sgN T i) with
  | none =>
    rw [hd] at hq
    exact ⟨fun z => absurd rfl z, fun _ => hq u (fun _ _ => rfl) hp⟩
  | some d =>
    rw [hd] at hq
    have hd4 := dOf_le hd
    have hil : i < T.length := sg_in (fun e => by rw [e] at hd; cases hd)
    refine ⟨fun _ a6 e6 => ?_, fun z => absurd z (opAns (show d < 2 ^ 31 by omega))⟩
    rw [nI_1] at e6
    have f6 : PF u a6 := by rw [e6]; exact (PF.rf u).put
    have p6 : a6 112 4 = nI (i + 1) := by rw [e6, u2_at]
    generalize hk : sgN T i = k at *
    have hml := mOf_lt k
    -- behind the first number
    have second : ∀ (one j : Nat) (u9 : MU), one < 2 ^ 31 → j ≤ 60 → PF u u9 → u9 112 4 = nI j → RdQ u cs Q (cmd2 T k one j) → wb_X3_isCommand_45 108 Q (nI k) (nI one) u9 := fun one j u9 h1 hj f9 p9 hq9 => by
      unfold cmd2 at hq9
      unfold wb_X3_isCommand_45
      refine ⟨fun _ => s_markOf (by omega) ⟨fun z => ?_, fun z => ?_⟩, fun z => absurd z (opAns h1)⟩
      · have hm : mOf k = 32 := (nI_eq (b := 32) (by omega) (by decide)).mp z
        rw [if_pos hm] at hq9
        exact s_store f9 hR (by omega) (by decide) p9 hq9
      · have hm : ¬ mOf k = 32 := fun e => z (by rw [e]; rfl)
        rw [if_neg hm] at hq9
        rw [p9]
        obtain ⟨k1, k2⟩ := sg_lt hc j
        refine s_sg (f9.T hT) hc (by omega) ⟨fun z2 a8 e8 => ?_, fun z2 => ?_⟩
        · have e : sgN T j = mOf k := (nI_eq (by omega) (by omega)).mp z2
          rw [if_pos e] at hq9
          rw [nI_1] at e8
          refine s_numberIn hc hT (most := 1) (by decide) (i := j + 1) (by omega) (u := a8) (by rw [e8]; exact f9.put) (by rw [e8, u2_at]) (fun u10 f10 p10 => ?_)
          cases hv : (dgN T 1 (j + 1) none).1 with
          | none =>
            rw [hv] at hq9
            unfold wb_X3_isCommand_104
            exact ⟨fun z3 => absurd rfl z3, fun _ => hq9 u10 f10.R p10⟩
          | some v =>
            rw [hv] at hq9
            have := dgN_lt 1 (j + 1) none 1 (fun x h => by cases h) (by decide) v hv
            exact s_store f10 hR (by omega) (by omega) p10 hq9
        · have e : ¬ sgN T j = mOf k := fun e => z2 (by rw [e])
          rw [if_neg e] at hq9
          exact hq9 u9 f9.R p9
    unfold cmd1 at hq
    refine ⟨fun z => ?_, fun z => ?_⟩
    · have h0 : ¬ d = 0 := fun e => z (by rw [e]; rfl)
      have hq : RdQ u cs Q (match (dgN T d (i + 1) none).1 with
        | none => .inl (dgN T d (i + 1) none).2
        | some v => cmd2 T k v (dgN T d (i + 1) none).2) := by
        have hq' : RdQ u cs Q (if d = 0 then cmd2 T k 0 (i + 1) else (match (dgN T d (i + 1) none).1 with
          | none => .inl (dgN T d (i + 1) none).2
          | some v => cmd2 T k v (dgN T d (i + 1) none).2)) := hq
        rw [if_neg h0] at hq'
        exact hq'
      have dl := (dgN_le (T := T) d (i + 1) none).2 hil
      refine s_numberIn hc hT (most := d) hd4 (i := i + 1) (by omega) f6 p6 (fun u9 f9 p9 => ?_)
      cases hv : (dgN T d (i + 1) none).1 with
      | none =>
        rw [hv] at hq
        unfold wb_X3_isCommand_45
        exact ⟨fun z3 => absurd rfl z3, fun _ => hq u9 f9.R p9⟩
      | some v =>
        rw [hv] at hq
        have h3 := dgN_lt d (i + 1) none 1 (fun x h => by cases h) (by decide) v hv
        have h4 : 10 ^ d ≤ 10 ^ 4 := Nat.pow_le_pow_right (by decide) hd4
        exact second v _ u9 (by omega) (by omega) f9 p9 hq
    · have h0 : d = 0 := (nI_eq (b := 0) (by omega) (by decide)).mp z
      have hq' : RdQ u cs Q (if d = 0 then cmd2 T k 0 (i + 1) else (match (dgN T d (i + 1) none).1 with
          | none => .inl (dgN T d (i + 1) none).2
          | some v => cmd2 T k v (dgN T d (i + 1) none).2)) := hq
      rw [if_pos h0] at hq'
      exact second 0 (i + 1) a6 (by decide) (by omega) f6 p6 hq'
theorem s_read {T : List Int32} (hc : chT T) {u : MU} (hT : TxI u 108 T) {Q : Int32 → MU → Prop} (hq : ∀ u', RF4 u u' → ((prs T 31 0).2 = none → RdC u' (prs T 31 0).1) → Q (match (prs T 31 0).2 with
      | none => -1
      | some p => nI p) u') : w_X3_read 108 u Q := by
  have h60 := hc.1
  generalize hP : prs T 31 0 = P at hq
  unfold w_X3_read
  intro a1 e1 a2 e2
  have f2 : RF4 u a2 := fun a ha => by rw [e2, u2_ne (by omega), e1, u2_ne (by omega)]
  have loop : ∀ (n i : Nat) (cs : List Cmd) (u' : MU), cs.length + n = 31 → i ≤ 61 → 2 * cs.length ≤ i → RF4 u u' → u' 112 4 = nI i → RdC u' cs → P.1 = cs ++ (prs T n i).1 → P.2 = (prs T n i).2 → wl_X3_read_12 108 Q (n + 1) (nI cs.length) u' := by
    intro n
    induction n with
    | zero =>
      intro i cs u' hn hi h2 f' p' r' e1 e2
      omega
    | succ n ih =>
      intro i cs u' hn hi h2 f' p' r' e1 e2
      rw [prs] at e1 e2
      rw [wl_X3_read_12]
      refine ⟨fun z => absurd z (nI_nlt (a := 30) (by omega) (by decide)), fun _ => s_isCommand hc (f'.T hT) r' hi h2 p' ?_⟩
      cases hcm : cmdAt T i with
      | inl p =>
        rw [hcm] at e1 e2
        intro u3 f3 p3
        refine ⟨fun z => absurd rfl z, fun _ => ?_⟩
        have := hq u3 (f'.tr f3) (fun e => by rw [e2] at e; cases e)
        rw [e2] at this
        rw [p3]
        exact this
      | inr z =>
        obtain ⟨j, c⟩ := z
        rw [hcm] at e1 e2
        obtain ⟨l1, l2⟩ := cmdAt_le hcm
        intro u3 f3 p3 r3
        have t3 := f3.T (f'.T hT)
        refine ⟨fun _ => ⟨fun z => ?_, fun z => ?_⟩, fun z => absurd z (by decide)⟩
        · rw [p3, t3.1] at z
          have hj : j < T.length := (nI_ltI (by omega) (by omega)).mp z
          simp only [if_neg (show ¬ T.length ≤ j by omega)] at e1 e2
          obtain ⟨k1, k2⟩ := sg_lt hc j
          rw [p3]
          refine s_sg t3 hc (by omega) ⟨fun z2 a9 e9 x2 hx2 => ?_, fun z2 => ?_⟩
          · have e59 : sgN T j = 59 := (nI_eq (b := 59) (by omega) (by decide)).mp z2
            rw [nI_1] at e9
            simp only [if_pos e59] at e1 e2
            have f9 : PF u3 a9 := by rw [e9]; exact (PF.rf u3).put
            rw [hx2, nI_1]
            have := ih (j + 1) (cs ++ [c]) a9 (by rw [List.length_append, List.length_singleton]; omega) (by omega) (by rw [List.length_append, List.length_singleton]; omega) ((f'.tr f3).tr f9.R) (by rw [e9, u2_at]) (RdC_PF f9 r3) (by rw [e1, List.append_assoc]; rfl) e2
            rw [List.length_append, List.length_singleton] at this
            exact this
          · have e59 : ¬ sgN T j = 59 := fun e => z2 (by rw [e]; rfl)
            simp only [if_neg e59] at e1 e2
            have := hq u3 (f'.tr f3) (fun e => by rw [e2] at e; cases e)
            rw [e2] at this
            exact this
        · rw [p3, t3.1] at z
          have hj : T.length ≤ j := by
            rcases Nat.lt_or_ge j T.length with z2 | z2
            · exact absurd (nI_lt z2 (by omega)) z
            · exact z2
          simp only [if_pos hj] at e1 e2
          have := hq u3 (f'.tr f3) (fun _ => by rw [e1]; exact r3)
          rw [e2] at this
          exact this
  exact ⟨32, loop 31 0 [] a2 rfl (by decide) (by decide) f2 (by rw [e2, u2_o (Or.inr (by decide)), e1, u2_at]; rfl) ⟨by rw [e2, u2_at]; rfl, fun m c h => by simp at h⟩ (by rw [hP]; rfl) (by rw [hP])⟩
