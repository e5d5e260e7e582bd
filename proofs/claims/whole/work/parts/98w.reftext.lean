/-! the reference reads texts -/
def TR (v : MU) (T : List Int32) : Prop := v 117 9 = nI T.length ∧ ∀ (i : Nat) x, T[i]? = some x → v 123 i = x
def CF (v v' : MU) : Prop := (∀ j, j ≠ 10 → j ≠ 11 → v' 117 j = v 117 j) ∧ ∀ a, a ≠ 117 → a ≠ 124 → v' a = v a
theorem CF.rf (v : MU) : CF v v := ⟨fun _ _ _ => rfl, fun _ _ _ => rfl⟩
theorem CF.tr {v v' v'' : MU} (h1 : CF v v') (h2 : CF v' v'') : CF v v'' := ⟨fun j a b => (h2.1 j a b).trans (h1.1 j a b), fun a b d => (h2.2 a b d).trans (h1.2 a b d)⟩
theorem CF.T {v v' : MU} {T : List Int32} (h : CF v v') (hT : TR v T) : TR v' T := ⟨by rw [h.1 9 (by decide) (by decide)]; exact hT.1, fun i x hi => by rw [h.2 123 (by decide) (by decide)]; exact hT.2 i x hi⟩
theorem CF.p {v v' a : MU} {x : Int32} (h : CF v v') (e : a = u2 v' 117 10 x) : CF v a := ⟨fun j h1 h2 => by rw [e, u2_o (Or.inr h1)]; exact h.1 j h1 h2, fun b h1 h2 => by rw [e, u2_ne h1]; exact h.2 b h1 h2⟩
theorem CF.k {v v' a : MU} {x : Int32} (h : CF v v') (e : a = u2 v' 117 11 x) : CF v a := ⟨fun j h1 h2 => by rw [e, u2_o (Or.inr h2)]; exact h.1 j h1 h2, fun b h1 h2 => by rw [e, u2_ne h1]; exact h.2 b h1 h2⟩
theorem CF.n {v v' a : MU} {i : Nat} {x : Int32} (h : CF v v') (e : a = u2 v' 124 i x) : CF v a := ⟨fun j h1 h2 => by rw [e, u2_ne (by decide)]; exact h.1 j h1 h2, fun b h1 h2 => by rw [e, u2_ne h2]; exact h.2 b h1 h2⟩
theorem TR.a {v : MU} {T : List Int32} (hc : chT T) (hT : TR v T) {i : Nat} (hi : i < T.length) : v 123 i = nI (sgN T i) := by
  rw [hT.2 i _ (List.getElem?_eq_getElem hi), ← (sg_lt hc i).2, List.getD_eq_getElem?_getD, List.getElem?_eq_getElem hi]; rfl
theorem r_takes {T : List Int32} (hc : chT T) {v : MU} (hT : TR v T) {i c : Nat} (hp : v 117 10 = nI i) (hi : i ≤ T.length) (hc0 : c ≠ 0) (hc1 : c < 65536) {Q : Int32 → MU → Prop} (h0 : sgN T i ≠ c → Q 0 v) (h1 : sgN T i = c → ∀ v', v' = u2 v 117 10 (nI (i + 1)) → Q 1 v') : w_X10_takes (nI c) v Q := by
  have h60 := hc.1
  have g := (sg_lt hc i).1
  unfold w_X10_takes
  rw [hp, hT.1, nI_1]
  refine ⟨fun z => h0 (fun e => ?_), fun z => ?_⟩
  · have e2 := (nI_eq (by omega) (by omega)).mp z
    have := sg_in (T := T) (i := i) (by omega)
    omega
  · have hil : i < T.length := by
      rcases Nat.lt_or_ge i T.length with e | e
      · exact e
      · exact absurd (by rw [show i = T.length by omega]) z
    rw [show (nI i).toNatClampNeg = i from nI_clamp (by omega), hT.a hc hil]
    exact ⟨vp_in_nI (by omega) (by decide), fun e => h1 ((nI_eq (by omega) (by omega)).mp e), fun e => h0 (fun e2 => e (by rw [e2]))⟩
theorem r_digits {T : List Int32} (hc : chT T) {v0 : MU} (hT : TR v0 T) {k : Nat} (hk : k < 2) {most : Nat} (hm : most ≤ 4) {i : Nat} (hi : i ≤ T.length) {v : MU} (hf : CF v0 v) (hp : v 117 10 = nI i) {Q : Int32 → MU → Prop}
    (hq : ∀ v', CF v0 v' → v' 117 10 = nI (dgN T most i none).2 → v' 117 11 = v 117 11 → (∀ j, j ≠ k → v' 124 j = v 124 j) → v' 124 k = nI ((dgN T most i none).1.getD 0) → Q (bI (dgN T most i none).1.isSome) v') : w_X10_digits (nI k) (nI most) v Q := by
  have h60 := hc.1
  have vk : vp_in (nI k) 2 := vp_in_nI hk (by decide)
  have hkc : (nI k).toNatClampNeg = k := nI_clamp (by omega)
  have loop : ∀ (n c i : Nat) (w : Option Nat) (v' : MU), c + n = most → i ≤ T.length → (w.isSome = decide (c ≠ 0)) → (∀ x, w = some x → x < 10 ^ c) → CF v0 v' → v' 117 10 = nI i → v' 117 11 = v 117 11 → (∀ j, j ≠ k → v' 124 j = v 124 j) → v' 124 k = nI (w.getD 0) →
      (∀ v', CF v0 v' → v' 117 10 = nI (dgN T n i w).2 → v' 117 11 = v 117 11 → (∀ j, j ≠ k → v' 124 j = v 124 j) → v' 124 k = nI ((dgN T n i w).1.getD 0) → Q (bI (dgN T n i w).1.isSome) v') → wl_X10_digits_9 Q (n + 1) (nI k) (nI most) (nI c) v' := by
    intro n
    induction n with
    | zero =>
      intro c i w v' hcn hi hw hb f' p' k' o' s' hq'
      have st := hq' v' f' p' k' o' s'
      have st2 : Q (bI w.isSome) v' := st
      rw [wl_X10_digits_9]
      refine ⟨fun _ => ?_, fun z => absurd (nI_le (by omega) (by omega)) z⟩
      unfold wb_X10_digits_85
      rw [hw] at st2
      refine ⟨fun z => ?_, fun z => ?_⟩
      · have h0 : c = 0 := (nI_leI (b := 0) (by omega) (by decide)).mp z |> Nat.le_zero.mp
        rw [decide_eq_false (fun e => e h0)] at st2; exact st2
      · rw [decide_eq_true (show c ≠ 0 from fun e => z (by rw [e]; decide))] at st2; exact st2
    | succ n ih =>
      intro c i w v' hcn hi hw hb f' p' k' o' s' hq'
      have g := (sg_lt hc i).1
      have stop : isDg (sgN T i) = false → wb_X10_digits_85 Q (nI c) v' := fun hd => by
        have e : dgN T (n + 1) i w = (w, i) := by rw [dgN, if_neg (by rw [hd]; decide)]
        rw [e] at hq'
        have st2 : Q (bI w.isSome) v' := hq' v' f' p' k' o' s'
        unfold wb_X10_digits_85
        rw [hw] at st2
        refine ⟨fun z => ?_, fun z => ?_⟩
        · have h0 : c = 0 := (nI_leI (b := 0) (by omega) (by decide)).mp z |> Nat.le_zero.mp
          rw [decide_eq_false (fun e => e h0)] at st2; exact st2
        · rw [decide_eq_true (show c ≠ 0 from fun e => z (by rw [e]; decide))] at st2; exact st2
      have T' := f'.T hT
      rw [wl_X10_digits_9, p', T'.1, hkc, show (nI i).toNatClampNeg = i from nI_clamp (by omega)]
      refine ⟨fun z => absurd z (nI_ge (by omega) (by omega)), fun _ => ⟨fun z => stop ?_, fun z => ?_⟩⟩
      · have e2 : T.length ≤ i := (nI_leI (by omega) (by omega)).mp z
        cases hd : isDg (sgN T i) with
        | false => rfl
        | true =>
          have := isDg_spec.mp hd
          have := sg_in (T := T) (i := i) (by omega)
          omega
      · have hil : i < T.length := by
          rcases Nat.lt_or_ge i T.length with e | e
          · exact e
          · exact absurd (nI_le e (by omega)) z
        rw [T'.a hc hil]
        refine ⟨vp_in_nI (by omega) (by decide), in3 (fun z2 => jj0 (stop ?_)) (fun _ z2 => jj0 (stop ?_)) (fun z2 z3 => jj1 ⟨vk, fun a8 e8 => ⟨vp_in_nI (by omega) (by decide), vk, fun a11 e11 x3 hx3 => ?_⟩⟩)⟩
        · have := (nI_ltI (b := 48) (by omega) (by decide)).mp z2
          cases hd : isDg (sgN T i) with
          | false => rfl
          | true => have := isDg_spec.mp hd; omega
        · have := (nI_ltI (a := 57) (by decide) (by omega)).mp z2
          cases hd : isDg (sgN T i) with
          | false => rfl
          | true => have := isDg_spec.mp hd; omega
        · have h48 : ¬ sgN T i < 48 := fun z4 => z2 (nI_lt (b := 48) z4 (by decide))
          have h57 : ¬ 57 < sgN T i := fun z4 => z3 (nI_lt (a := 57) z4 (by omega))
          have e : dgN T (n + 1) i w = dgN T n (i + 1) (some (10 * w.getD 0 + sgN T i - 48)) := by rw [dgN, if_pos (isDg_spec.mpr ⟨by omega, by omega⟩)]
          rw [e] at hq'
          rw [nI_1] at e8
          have p10 : 10 ^ c ≤ 10 ^ 4 := Nat.pow_le_pow_right (by decide) (by omega)
          have hwb : w.getD 0 < 10 ^ c := by
            cases w with
            | none => show 0 < _; exact Nat.pow_pos (by decide)
            | some x => exact hb x rfl
          have x8 : a8 123 i = nI (sgN T i) := by rw [e8, u2_ne (by decide)]; exact T'.a hc hil
          rw [s', x8, show (10 : Int32) = nI 10 from rfl, pk_mul, nI_add, show (48 : Int32) = nI 48 from rfl, pk_sub (by omega)] at e11
          rw [hx3, nI_1]
          refine ih (c + 1) (i + 1) _ a11 (by omega) (by omega) ?_ (fun x hx => ?_) ((f'.p e8).n e11) (by rw [e11, u2_ne (by decide), e8, u2_at]) (by rw [e11, u2_ne (by decide), e8, u2_o (Or.inr (by decide))]; exact k') (fun j hj => by rw [e11, u2_o (Or.inr hj), e8, u2_ne (by decide)]; exact o' j hj) (by rw [e11, u2_at]; rfl) hq'
          · rw [decide_eq_true (show c + 1 ≠ 0 by omega)]; rfl
          · cases hx
            rw [Nat.pow_succ]
            omega
  unfold w_X10_digits
  refine ⟨vk, fun a2 e2 => ⟨most + 1, ?_⟩⟩
  rw [hkc] at e2
  refine loop most 0 i none a2 (by omega) hi rfl (fun x h => by cases h) (hf.n e2) (by rw [e2, u2_ne (by decide)]; exact hp) (by rw [e2, u2_ne (by decide)]) (fun j hj => by rw [e2, u2_o (Or.inr hj)]) (by rw [e2, u2_at]; rfl) ?_
  exact hq
/-- the numbers of a command, where it has any -/
def Args (v : MU) (c : Cmd) : Prop := (dOf c.1 ≠ some 0 → v 124 0 = nI c.2.1) ∧ (mOf c.1 ≠ 32 → v 124 1 = nI c.2.2)
def RQ (v : MU) (Q : Int32 → MU → Prop) : Nat ⊕ (Nat × Cmd) → Prop
  | .inl p => ∀ v', CF v v' → v' 117 10 = nI p → Q 0 v'
  | .inr (j, c) => ∀ v', CF v v' → v' 117 10 = nI j → v' 117 11 = nI c.1 → dOf c.1 ≠ none → Args v' c → Q 1 v'
theorem r_zero {T : List Int32} {v0 : MU} {k i : Nat} (hk : sgN T i = k) (hd : dOf k = some 0) (hm : mOf k = 32) {v : MU} (hf : CF v0 v) (hp : v 117 10 = nI (i + 1)) (h11 : v 117 11 = nI k) {Q : Int32 → MU → Prop} (hq : RQ v0 Q (cmdAt T i)) : Q 1 v := by
  have e : cmdAt T i = .inr (i + 1, (k, (0, 0))) := by
    unfold cmdAt
    rw [hk, hd]
    show cmd1 T k i 0 = _
    unfold cmd1 cmd2
    rw [if_pos rfl, if_pos hm]
  rw [e] at hq
  exact hq v hf hp h11 (by rw [hd]; exact Option.some_ne_none _) ⟨fun z => absurd hd z, fun z => absurd hm z⟩
theorem r_one {T : List Int32} (hc : chT T) {v0 : MU} (hT : TR v0 T) {k i d : Nat} (hk : sgN T i = k) (hk0 : k ≠ 0) (hd : dOf k = some d) (hd0 : d ≠ 0) (hm : mOf k = 32) {v : MU} (hf : CF v0 v) (hp : v 117 10 = nI (i + 1)) (h11 : v 117 11 = nI k) {Q : Int32 → MU → Prop} (hq : RQ v0 Q (cmdAt T i)) : w_X10_digits (nI 0) (nI d) v (fun r u => narrow .boolean (.int r) = .int r ∧ Q r u) := by
  have hil := sg_in (T := T) (i := i) (by rw [hk]; exact hk0)
  have e : cmdAt T i = (match (dgN T d (i + 1) none).1 with
    | none => .inl (dgN T d (i + 1) none).2
    | some v => .inr ((dgN T d (i + 1) none).2, (k, (v, 0)))) := by
    unfold cmdAt
    rw [hk, hd]
    show cmd1 T k i d = _
    unfold cmd1 cmd2
    rw [if_neg hd0]
    simp only [if_pos hm]
    cases (dgN T d (i + 1) none).1 <;> rfl
  refine r_digits hc hT (by decide) (dOf_le hd) hil hf hp (fun v' f' p' k' o' s' => ⟨bI_nr _, ?_⟩)
  rw [e] at hq
  cases hg : (dgN T d (i + 1) none).1 with
  | none => rw [hg] at hq; exact hq v' f' p'
  | some w =>
    rw [hg] at hq s'
    exact hq v' f' p' (by rw [k']; exact h11) (by rw [hd]; exact Option.some_ne_none _) ⟨fun _ => s', fun z => absurd hm z⟩
theorem r_two {T : List Int32} (hc : chT T) {v0 : MU} (hT : TR v0 T) {k i m : Nat} (hk : sgN T i = k) (hk0 : k ≠ 0) (hd : dOf k = some 1) (hm : mOf k = m) (hm2 : m ≠ 32) {v : MU} (hf : CF v0 v) (hp : v 117 10 = nI (i + 1)) (h11 : v 117 11 = nI k) {Q : Int32 → MU → Prop} (hq : RQ v0 Q (cmdAt T i)) : w_X10_digits (nI 0) (nI 1) v (fun r u => (r = 0 → Q 0 u) ∧ (¬ r = 0 → w_X10_takes (nI m) u (fun r2 u2 => (r2 = 0 → Q 0 u2) ∧ (¬ r2 = 0 → w_X10_digits (nI 1) (nI 1) u2 (fun r3 u3 => (r3 = 0 → Q 0 u3) ∧ (¬ r3 = 0 → Q 1 u3)))))) := by
  have hil := sg_in (T := T) (i := i) (by rw [hk]; exact hk0)
  have hm65 := mOf_lt k
  have hmp := mOf_pos k
  have e : cmdAt T i = cmd1 T k i 1 := by
    unfold cmdAt
    rw [hk, hd]
  rw [e] at hq
  unfold cmd1 at hq
  rw [if_neg (by decide)] at hq
  have l1 := (dgN_le (T := T) 1 (i + 1) none).2 hil
  refine r_digits hc hT (by decide) (by decide) hil hf hp (fun v' f' p' k' o' s' => ?_)
  cases hg : (dgN T 1 (i + 1) none).1 with
  | none => rw [hg] at hq; exact jj0 (hq v' f' p')
  | some w =>
    rw [hg] at hq s'
    have hq : RQ v0 Q (cmd2 T k w (dgN T 1 (i + 1) none).2) := hq
    unfold cmd2 at hq
    rw [if_neg (by rw [hm]; exact hm2), hm] at hq
    generalize (dgN T 1 (i + 1) none).2 = j at *
    refine jj1 (r_takes hc (f'.T hT) p' l1 (by omega) (by omega) (fun z => jj0 ?_) (fun z v2 e2 => jj1 ?_))
    · rw [if_neg z] at hq
      exact hq v' f' p'
    · rw [if_pos z] at hq
      have hjl := sg_in (T := T) (i := j) (by omega)
      have f2 := f'.p e2
      refine r_digits hc hT (by decide) (by decide) hjl f2 (by rw [e2, u2_at]) (fun v3 f3 p3 k3 o3 s3 => ?_)
      cases hg2 : (dgN T 1 (j + 1) none).1 with
      | none => rw [hg2] at hq; exact jj0 (hq v3 f3 p3)
      | some w2 =>
        rw [hg2] at hq s3
        refine jj1 (hq v3 f3 p3 ?_ (by rw [hd]; exact Option.some_ne_none _) ⟨fun _ => ?_, fun _ => s3⟩)
        · rw [k3, e2, u2_o (Or.inr (by decide)), k']; exact h11
        · rw [o3 0 (by decide), e2, u2_ne (by decide)]; exact s'
theorem r_isCommand {T : List Int32} (hc : chT T) {v : MU} (hT : TR v T) {i : Nat} (hi : i ≤ T.length) (hp : v 117 10 = nI i) {Q : Int32 → MU → Prop} (hq : RQ v Q (cmdAt T i)) : w_X10_isCommand v Q := by
  obtain ⟨g1, g2⟩ := sg_lt hc i
  have h60 := hc.1
  unfold w_X10_isCommand
  rw [hp, hT.1]
  refine ⟨fun z => ?_, fun z => ?_⟩
  · have hil : i < T.length := by
      rcases Nat.lt_or_ge i T.length with e | e
      · exact e
      · exact absurd (by rw [show i = T.length by omega]) z
    rw [show (nI i).toNatClampNeg = i from nI_clamp (by omega), hT.a hc hil]
    refine ⟨vp_in_nI (by omega) (by decide), ⟨chI_nc (chI_n g1), chI_fc (chI_n g1)⟩, fun a3 e3 w hw => ?_⟩
    generalize hk : sgN T i = k at *
    have h11 : a3 117 11 = nI k := by rw [e3, u2_at]
    have p3 : a3 117 10 = nI i := by rw [e3, u2_o (Or.inr (by decide))]; exact hp
    have f3 : CF v a3 := (CF.rf v).k e3
    rw [h11] at hw
    subst hw
    rw [p3, nI_1]
    have K : ∀ m : Nat, m < 65536 → (nI k = nI m ↔ k = m) := fun m hm => kindI g1 hm
    have hp4 : ∀ a : MU, a = u2 a3 117 10 (nI (i + 1)) → CF v a ∧ a 117 10 = nI (i + 1) ∧ a 117 11 = nI k := fun a e => ⟨f3.p e, by rw [e, u2_at], by rw [e, u2_o (Or.inr (by decide))]; exact h11⟩
    refine ⟨fun e a4 e4 => ?_, fun n1 => ⟨fun e a4 e4 => ?_, fun n2 => ⟨fun e a4 e4 => ?_, fun n3 => ⟨fun e a4 e4 => ?_, fun n4 => ⟨fun e a4 e4 => ?_, fun n5 => ⟨fun e a4 e4 => ?_, fun n6 => ⟨fun e a4 e4 => ?_, fun n7 => ⟨fun e a4 e4 => ?_, fun n8 => ⟨fun e a4 e4 => ?_, fun n9 => ⟨fun e a4 e4 => ?_, fun n10 => ?_⟩⟩⟩⟩⟩⟩⟩⟩⟩⟩
    · obtain ⟨f4, p4, k4⟩ := hp4 a4 e4
      have hk2 := (K 97 (by decide)).mp e
      exact r_one (d := 2) hc hT (hk.trans hk2) (by decide) rfl (by decide) rfl f4 p4 (by rw [k4, hk2]) hq
    · obtain ⟨f4, p4, k4⟩ := hp4 a4 e4
      have hk2 := (K 98 (by decide)).mp e
      exact r_one (d := 4) hc hT (hk.trans hk2) (by decide) rfl (by decide) rfl f4 p4 (by rw [k4, hk2]) hq
    · obtain ⟨f4, p4, k4⟩ := hp4 a4 e4
      have hk2 := (K 100 (by decide)).mp e
      exact r_zero (hk.trans hk2) rfl rfl f4 p4 (by rw [k4, hk2]) hq
    · obtain ⟨f4, p4, k4⟩ := hp4 a4 e4
      have hk2 := (K 102 (by decide)).mp e
      exact r_one (d := 1) hc hT (hk.trans hk2) (by decide) rfl (by decide) rfl f4 p4 (by rw [k4, hk2]) hq
    · obtain ⟨f4, p4, k4⟩ := hp4 a4 e4
      have hk2 := (K 103 (by decide)).mp e
      exact r_one (d := 1) hc hT (hk.trans hk2) (by decide) rfl (by decide) rfl f4 p4 (by rw [k4, hk2]) hq
    · obtain ⟨f4, p4, k4⟩ := hp4 a4 e4
      have hk2 := (K 109 (by decide)).mp e
      exact r_two (m := 62) hc hT (hk.trans hk2) (by decide) rfl rfl (by decide) f4 p4 (by rw [k4, hk2]) hq
    · obtain ⟨f4, p4, k4⟩ := hp4 a4 e4
      have hk2 := (K 112 (by decide)).mp e
      exact r_two (m := 45) hc hT (hk.trans hk2) (by decide) rfl rfl (by decide) f4 p4 (by rw [k4, hk2]) hq
    · obtain ⟨f4, p4, k4⟩ := hp4 a4 e4
      have hk2 := (K 116 (by decide)).mp e
      exact r_one (d := 1) hc hT (hk.trans hk2) (by decide) rfl (by decide) rfl f4 p4 (by rw [k4, hk2]) hq
    · obtain ⟨f4, p4, k4⟩ := hp4 a4 e4
      have hk2 := (K 117 (by decide)).mp e
      exact r_zero (hk.trans hk2) rfl rfl f4 p4 (by rw [k4, hk2]) hq
    · obtain ⟨f4, p4, k4⟩ := hp4 a4 e4
      have hk2 := (K 120 (by decide)).mp e
      exact r_two (m := 45) hc hT (hk.trans hk2) (by decide) rfl rfl (by decide) f4 p4 (by rw [k4, hk2]) hq
    · have N : ∀ m : Nat, m < 65536 → ¬ nI k = nI m → ¬ k = m := fun m hm h e => h ((K m hm).mpr e)
      have hd : dOf k = none := by
        unfold dOf
        rw [if_neg (N 97 (by decide) n1), if_neg (N 98 (by decide) n2), if_neg (N 100 (by decide) n3), if_neg (N 102 (by decide) n4), if_neg (N 103 (by decide) n5), if_neg (N 109 (by decide) n6), if_neg (N 112 (by decide) n7), if_neg (N 116 (by decide) n8), if_neg (N 117 (by decide) n9), if_neg (N 120 (by decide) n10)]
      have e : cmdAt T i = .inl i := by unfold cmdAt; rw [hk, hd]
      rw [e] at hq
      exact hq a3 f3 p3
  · have e2 := (nI_eq (by omega) (by omega)).mp z
    have h0 : sgN T i = 0 := by
      rcases Nat.eq_zero_or_pos (sgN T i) with q | q
      · exact q
      · have := sg_in (T := T) (i := i) (by omega); omega
    have e : cmdAt T i = .inl i := by unfold cmdAt; rw [h0]; rfl
    rw [e] at hq
    exact hq v (CF.rf v) hp
