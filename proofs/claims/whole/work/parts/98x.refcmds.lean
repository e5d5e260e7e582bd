/-! the reference carries commands out -/
theorem r_carries {v : MU} {A : Ab} {T : Tr} (hO : RO v A T) {c : Cmd} (hk : v 117 11 = nI c.1) (hk2 : c.1 < 65536) (hd : dOf c.1 ≠ none) (ha : Args v c) {Q : Int32 → MU → Prop} (hq : RRes A T Q (opCmd A.S c)) : w_X10_carries v Q := by
  unfold w_X10_carries
  intro w hw
  rw [hk] at hw
  subst hw
  have K : ∀ m : Nat, m < 65536 → (nI c.1 = nI m ↔ c.1 = m) := fun m hm => kindI hk2 hm
  have v0 : vp_in (0 : Int32) 2 := vp_in_nI (n := 0) (by decide) (by decide)
  have v1 : vp_in (1 : Int32) 2 := vp_in_nI (n := 1) (by decide) (by decide)
  rw [c0, c1]
  refine ⟨fun e => ?_, fun n1 => ⟨fun e => ?_, fun n2 => ⟨fun e => ?_, fun n3 => ⟨fun e => ?_, fun n4 => ⟨fun e => ?_, fun n5 => ⟨fun e => ?_, fun n6 => ⟨fun e => ?_, fun n7 => ⟨fun e => ?_, fun n8 => ⟨fun e => ?_, fun n9 => ?_⟩⟩⟩⟩⟩⟩⟩⟩⟩
  · have h := (K 98 (by decide)).mp e
    have x0 := ha.1 (by rw [h]; decide)
    rw [x0]
    exact ⟨v0, r_begins hO (by rw [show opCmd A.S c = opBegin A.S (nI c.2.1) by unfold opCmd; rw [h, if_neg (by decide), if_pos rfl]] at hq; exact hq)⟩
  · have h := (K 100 (by decide)).mp e
    exact r_digs hO (by rw [show opCmd A.S c = opDig A.S by unfold opCmd; rw [h, if_neg (by decide), if_neg (by decide), if_pos rfl]] at hq; exact hq)
  · have h := (K 102 (by decide)).mp e
    have x0 := ha.1 (by rw [h]; decide)
    rw [x0]
    exact ⟨v0, r_traps (b := false) hO (by rw [show opCmd A.S c = opTrap A.S (nI c.2.1) false by unfold opCmd; rw [h, if_neg (by decide), if_neg (by decide), if_neg (by decide), if_pos rfl]] at hq; exact hq)⟩
  · have h := (K 103 (by decide)).mp e
    have x0 := ha.1 (by rw [h]; decide)
    rw [x0]
    exact ⟨v0, r_flocks hO (by rw [show opCmd A.S c = opFlock A.S (nI c.2.1) by unfold opCmd; rw [h, if_neg (by decide), if_neg (by decide), if_neg (by decide), if_neg (by decide), if_pos rfl]] at hq; exact hq)⟩
  · have h := (K 109 (by decide)).mp e
    have x0 := ha.1 (by rw [h]; decide)
    have x1 := ha.2 (by rw [h]; decide)
    rw [x0, x1]
    exact ⟨v0, v1, r_goes hO (by rw [show opCmd A.S c = opMove A.S (nI c.2.1) (nI c.2.2) by unfold opCmd; rw [h, if_neg (by decide), if_neg (by decide), if_neg (by decide), if_neg (by decide), if_neg (by decide), if_pos rfl]] at hq; exact hq)⟩
  · have h := (K 112 (by decide)).mp e
    have x0 := ha.1 (by rw [h]; decide)
    have x1 := ha.2 (by rw [h]; decide)
    rw [x0, x1]
    exact ⟨v0, v1, r_treads hO (by rw [show opCmd A.S c = opTread A.S (nI c.2.1) (nI c.2.2) by unfold opCmd; rw [h, if_neg (by decide), if_neg (by decide), if_neg (by decide), if_neg (by decide), if_neg (by decide), if_neg (by decide), if_pos rfl]] at hq; exact hq)⟩
  · have h := (K 116 (by decide)).mp e
    have x0 := ha.1 (by rw [h]; decide)
    rw [x0]
    exact ⟨v0, r_traps (b := true) hO (by rw [show opCmd A.S c = opTrap A.S (nI c.2.1) true by unfold opCmd; rw [h, if_neg (by decide), if_neg (by decide), if_neg (by decide), if_neg (by decide), if_neg (by decide), if_neg (by decide), if_neg (by decide), if_pos rfl]] at hq; exact hq)⟩
  · have h := (K 117 (by decide)).mp e
    exact r_takesBack hO (by rw [show opCmd A.S c = opBack A.S by unfold opCmd; rw [h, if_neg (by decide), if_neg (by decide), if_neg (by decide), if_neg (by decide), if_neg (by decide), if_neg (by decide), if_neg (by decide), if_neg (by decide), if_neg (by decide)]] at hq; exact hq)
  · have h := (K 120 (by decide)).mp e
    have x0 := ha.1 (by rw [h]; decide)
    have x1 := ha.2 (by rw [h]; decide)
    rw [x0, x1]
    exact ⟨v0, v1, r_grows hO (by rw [show opCmd A.S c = opGrow A.S (nI c.2.1) (nI c.2.2) by unfold opCmd; rw [h, if_neg (by decide), if_neg (by decide), if_neg (by decide), if_neg (by decide), if_neg (by decide), if_neg (by decide), if_neg (by decide), if_neg (by decide), if_pos rfl]] at hq; exact hq)⟩
  · have N : ∀ m : Nat, m < 65536 → ¬ nI c.1 = nI m → ¬ c.1 = m := fun m hm h e => h ((K m hm).mpr e)
    have h : c.1 = 97 := by
      rcases Nat.decEq c.1 97 with z | z
      · exfalso
        refine hd ?_
        unfold dOf
        rw [if_neg z, if_neg (N 98 (by decide) n1), if_neg (N 100 (by decide) n2), if_neg (N 102 (by decide) n3), if_neg (N 103 (by decide) n4), if_neg (N 109 (by decide) n5), if_neg (N 112 (by decide) n6), if_neg (N 116 (by decide) n7), if_neg (N 117 (by decide) n8), if_neg (N 120 (by decide) n9)]
      · exact z
    have x0 := ha.1 (by rw [h]; decide)
    rw [x0]
    exact ⟨v0, r_plays hO (by rw [show opCmd A.S c = opPlay A.S (nI c.2.1) by unfold opCmd; rw [h, if_pos rfl]] at hq; exact hq)⟩
theorem CF.ro {v v' : MU} {A : Ab} {T : Tr} (h : CF v v') (hO : RO v A T) : RO v' A (T.1, v' 117 10) := by
  obtain ⟨o1, o2, o3, o4, o5, o6⟩ := hO
  refine ⟨o1, by rw [h.2 118 (by decide) (by decide)]; exact o2, ?_, by rw [h.1 22 (by decide) (by decide)]; exact o4, by rw [h.1 17 (by decide) (by decide)]; exact o5, by rw [h.2 119 (by decide) (by decide)]; exact o6.1, rfl⟩
  unfold RMem RSv RWy at o3 ⊢
  rw [h.1 3 (by decide) (by decide), h.1 5 (by decide) (by decide), h.1 7 (by decide) (by decide), h.1 9 (by decide) (by decide), h.1 13 (by decide) (by decide), h.1 14 (by decide) (by decide), h.1 15 (by decide) (by decide), h.1 16 (by decide) (by decide), h.2 120 (by decide) (by decide), h.2 121 (by decide) (by decide), h.2 122 (by decide) (by decide), h.2 123 (by decide) (by decide)]
  exact o3
theorem RO.T {v : MU} {A : Ab} {T : Tr} (hO : RO v A T) : TR v A.text := ⟨hO.2.2.1.2.2.2.2.1, hO.2.2.1.2.2.2.2.2.1⟩
theorem RMem_9 {v a : MU} {A : Ab} (hM : RMem v A) (e : a = u2 v 117 9 0) : RMem a (A.setT []) := by
  obtain ⟨m1, m2, m3, m4, m5, m6, m7, m8, m9⟩ := hM
  have s : ∀ j, j ≠ 9 → a 117 j = v 117 j := fun j hj => by rw [e]; exact u2_o (Or.inr hj)
  have r : ∀ b, b ≠ 117 → a b = v b := fun b hb => by rw [e]; exact u2_ne hb
  refine ⟨by rw [s 13 (by decide)]; exact m1, ?_, by rw [s 3 (by decide)]; exact m3, by rw [r 120 (by decide)]; exact m4, by rw [e, u2_at]; rfl, fun i x hi => ?_, by rw [s 7 (by decide)]; exact m7, by rw [r 122 (by decide)]; exact m8, ?_⟩
  · show RSv a A.sv
    unfold RSv at m2 ⊢
    rw [s 5 (by decide), r 121 (by decide)]
    exact m2
  · have hi : ([] : List Int32)[i]? = some x := hi
    simp at hi
  · show RWy a A.why
    unfold RWy at m9 ⊢
    rw [s 14 (by decide), s 15 (by decide), s 16 (by decide)]
    exact m9
theorem AbOk.T0 {A : Ab} (h : AbOk A) : AbOk (A.setT []) := ⟨h.1, h.2.1, h.2.2.1, h.2.2.2.1, Nat.zero_le _, fun x hx => absurd hx List.not_mem_nil, h.2.2.2.2.2.2⟩
theorem RO_9 {v a : MU} {A : Ab} {T : Tr} (hO : RO v A T) (e : a = u2 v 117 9 0) : RO a (A.setT []) T := by
  obtain ⟨o1, o2, o3, o4, o5, o6⟩ := hO
  have s : ∀ j, j ≠ 9 → a 117 j = v 117 j := fun j hj => by rw [e]; exact u2_o (Or.inr hj)
  have r : ∀ b, b ≠ 117 → a b = v b := fun b hb => by rw [e]; exact u2_ne hb
  exact ⟨o1.T0, by rw [r 118 (by decide)]; exact o2, RMem_9 o3 e, by rw [s 22 (by decide)]; exact o4, by rw [s 17 (by decide)]; exact o5, by rw [r 119 (by decide)]; exact o6.1, by rw [s 10 (by decide)]; exact o6.2⟩
theorem RMem_13 {v a : MU} {A : Ab} {x : Int32} (hM : RMem v A) (e : a = u2 v 117 13 x) : RMem a (A.setF x) := by
  obtain ⟨m1, m2, m3, m4, m5, m6, m7, m8, m9⟩ := hM
  have s : ∀ j, j ≠ 13 → a 117 j = v 117 j := fun j hj => by rw [e]; exact u2_o (Or.inr hj)
  have r : ∀ b, b ≠ 117 → a b = v b := fun b hb => by rw [e]; exact u2_ne hb
  refine ⟨by rw [e, u2_at]; rfl, ?_, by rw [s 3 (by decide)]; exact m3, by rw [r 120 (by decide)]; exact m4, by rw [s 9 (by decide)]; exact m5, by rw [r 123 (by decide)]; exact m6, by rw [s 7 (by decide)]; exact m7, by rw [r 122 (by decide)]; exact m8, ?_⟩
  · show RSv a A.sv
    unfold RSv at m2 ⊢
    rw [s 5 (by decide), r 121 (by decide)]
    exact m2
  · show RWy a A.why
    unfold RWy at m9 ⊢
    rw [s 14 (by decide), s 15 (by decide), s 16 (by decide)]
    exact m9
theorem RO_13 {v a : MU} {A : Ab} {T : Tr} {x : Int32} (hO : RO v A T) (e : a = u2 v 117 13 x) : RO a (A.setF x) T := by
  obtain ⟨o1, o2, o3, o4, o5, o6⟩ := hO
  have s : ∀ j, j ≠ 13 → a 117 j = v 117 j := fun j hj => by rw [e]; exact u2_o (Or.inr hj)
  have r : ∀ b, b ≠ 117 → a b = v b := fun b hb => by rw [e]; exact u2_ne hb
  exact ⟨o1, by rw [r 118 (by decide)]; exact o2, RMem_13 o3 e, by rw [s 22 (by decide)]; exact o4, by rw [s 17 (by decide)]; exact o5, by rw [r 119 (by decide)]; exact o6.1, by rw [s 10 (by decide)]; exact o6.2⟩
/-- a refusal: back to what there was -/
theorem r_end_no {v : MU} {A : Ab} {T : Tr} (hO : RO v A T) (hT : StOk T.1) {w dd : Int32} (hw : A.why = some (w, (dd, 0))) {n d : Nat} {Q : Int32 → MU → Prop} (hq : ∀ v', RI v' (((A.setT []).setS T.1).setWhy w dd (nI d)) → v' 117 17 = 2 → Q 0 v') : wl_X10_commands_94 Q (n + 1) (nI d) (-1) 0 v := by
  rw [wl_X10_commands_94]
  refine jj0 (fun a2 e2 => ⟨fun _ a4 e4 => ⟨120, ?_⟩, fun z => absurd m1_lt z⟩)
  obtain ⟨o1, o2, o3, o4, o5, o6⟩ := RO_9 hO e2
  have s4 : ∀ j, j ≠ 16 → a4 117 j = a2 117 j := fun j hj => by rw [e4]; exact u2_o (Or.inr hj)
  have r4 : ∀ b, b ≠ 117 → a4 b = a2 b := fun b hb => by rw [e4]; exact u2_ne hb
  have M4 : RMem a4 (((A.setT []).setS T.1).setWhy w dd (nI d)) := by
    obtain ⟨m1, m2, m3, m4, m5, m6, m7, m8, m9⟩ := o3
    have m9 : RWy a2 A.why := m9
    rw [hw] at m9
    refine ⟨by rw [s4 13 (by decide)]; exact m1, ?_, by rw [s4 3 (by decide)]; exact m3, by rw [r4 120 (by decide)]; exact m4, by rw [s4 9 (by decide)]; exact m5, by rw [r4 123 (by decide)]; exact m6, by rw [s4 7 (by decide)]; exact m7, by rw [r4 122 (by decide)]; exact m8, ?_⟩
    · show RSv a4 A.sv
      have m2 : RSv a2 A.sv := m2
      unfold RSv at m2 ⊢
      rw [s4 5 (by decide), r4 121 (by decide)]
      exact m2
    · exact ⟨by rw [s4 14 (by decide)]; exact m9.1, by rw [s4 15 (by decide)]; exact m9.2.1, by rw [e4, u2_at]⟩
  have loop : ∀ (n i : Nat) (v' : MU), i + n = 119 → (∀ a, a ≠ 118 → v' a = a4 a) → (∀ m, m < i → v' 118 m = a4 119 m) → wl_X10_commands_162 Q (n + 1) (nI i) v' := by
    intro n
    induction n with
    | zero =>
      intro i v' hi f' s'
      rw [wl_X10_commands_162]
      refine ⟨fun _ => ?_, fun z => absurd (nI_le (a := 119) (by omega) (by omega)) z⟩
      intro a e
      have s5 : ∀ j, j ≠ 17 → a 117 j = a4 117 j := fun j hj => by rw [e, u2_o (Or.inr hj), f' 117 (by decide)]
      have r5 : ∀ b, b ≠ 117 → b ≠ 118 → a b = a4 b := fun b hb hb2 => by rw [e, u2_ne hb]; exact f' b hb2
      refine hq a ⟨⟨hT, o1.2.1, o1.2.2.1, o1.2.2.2.1, o1.2.2.2.2.1, o1.2.2.2.2.2.1, o1.2.2.2.2.2.2.1, o1.2.2.2.2.2.2.2.1, fun w' d' i' e => ?_⟩, ?_, RMem_of (fun j _ _ h3 _ _ => s5 j h3) (fun b hb1 hb2 => r5 b (by omega) (by omega)) M4, Or.inl (by rw [s5 22 (by decide), s4 22 (by decide)]; exact o4)⟩ (by rw [e, u2_at])
      · cases e
        exact hO.1.2.2.2.2.2.2.2.2 _ _ _ hw
      · refine RwIs_of (r := v 119) hT (fun m hm => ?_) hO.2.2.2.2.2.1
        rw [e, u2_ne (show (118 : Nat) ≠ 117 by decide), s' m (by omega), r4 119 (by decide), e2, u2_ne (show (119 : Nat) ≠ 117 by decide)]
    | succ n ih =>
      intro i v' hi f' s'
      rw [wl_X10_commands_162]
      refine ⟨fun z => absurd z (nI_ge (b := 119) (by omega) (by decide)), fun _ => ⟨i119 (by omega), i119 (by omega), fun a6 e6 x5 hx5 => ?_⟩⟩
      rw [nI_clamp (by omega), f' 119 (by decide)] at e6
      rw [hx5, nI_1]
      refine ih (i + 1) a6 (by omega) (fun b hb => by rw [e6, u2_ne hb]; exact f' b hb) (fun m hm => ?_)
      by_cases e : m = i
      · rw [e6, e, u2_at]
      · rw [e6, u2_o (Or.inr e)]; exact s' m (by omega)
  exact loop 119 0 a4 rfl (fun _ _ => rfl) (fun m hm => by omega)
theorem r_end_ok {v : MU} {A : Ab} {T : Tr} (hO : RO v A T) (hT : StOk T.1) {n d : Nat} (hd : d < 2 ^ 31) {x : Int32} (hx : ¬ x < 0) {Q : Int32 → MU → Prop} (hq : ∀ v', RI v' ((A.setT []).keep T.1) → v' 117 17 = 0 → Q (nI d) v') : wl_X10_commands_94 Q (n + 1) (nI d) x 0 v := by
  rw [wl_X10_commands_94]
  exact jj0 (fun a2 e2 => ⟨fun z => absurd z hx, fun _ => r_keeps (RO_9 hO e2) hT (nI_pos' hd) hq⟩)
theorem M_commands {v : MU} {A : Ab} {Q : Int32 → MU → Prop} (hI : RI v A) (hq : MPost (a_commands A) Q) : w_X10_commands v Q := by
  have hS := hI.1.1
  have hc : chT A.text := ⟨hI.1.2.2.2.2.1, hI.1.2.2.2.2.2.1⟩
  have h60 := hc.1
  unfold a_commands at hq
  unfold w_X10_commands
  refine r_tries hI (fun u2' o2 a3 e3 a4 e4 => ?_)
  have o3 : RO a3 A (A.S, 0) := by
    have f : CF u2' a3 := (CF.rf u2').p e3
    have := f.ro o2
    rw [e3, u2_at, ← e3] at this
    exact this
  have o4 : RO a4 (A.setF (-1)) (A.S, 0) := RO_13 o3 e4
  have p4 : a4 117 10 = nI 0 := o4.2.2.2.2.2.2
  -- carrying out
  have carry : (prs A.text 31 0).2 = none → ∀ v', CF a4 v' → wb_X10_commands_59 Q 1 v' := fun hn v' f' => by
    rw [hn] at hq
    obtain ⟨cl1, cl2⟩ := prs_ok hc 31 0 (by decide)
    generalize hcs : (prs A.text 31 0).1 = cs at *
    have loop : ∀ (m i : Nat) (D : List Cmd) (S : St) (x : Int32) (v1 : MU), 62 ≤ 2 * m + i → i ≤ A.text.length → (prs A.text m i).2 = none → cs = D ++ (prs A.text m i).1 → RO v1 ((A.setF (-1)).setS S) (A.S, nI i) → runC S (prs A.text m i).1 D.length = runC A.S cs 0 → wl_X10_commands_94 Q ((prs A.text m i).1.length + 1) (nI D.length) x 1 v1 := by
      intro m
      induction m with
      | zero => intro i D S x v1 hm hi; omega
      | succ m ih =>
        intro i D S x v1 hm hi h2 hD hO hr
        have p1 : v1 117 10 = nI i := hO.2.2.2.2.2.2
        have T1 : TR v1 A.text := hO.T
        have hDl : D.length ≤ 30 := by
          have := congrArg List.length hD
          rw [List.length_append] at this
          omega
        rw [prs] at h2 hD hr ⊢
        cases hcm : cmdAt A.text i with
        | inl p => rw [hcm] at h2; cases h2
        | inr z =>
          obtain ⟨j, c⟩ := z
          simp only [hcm] at h2 hD hr ⊢
          obtain ⟨l1, l2⟩ := cmdAt_le hcm
          have hk := cmdAt_k hc hcm
          -- one command, and what comes then
          have step : ∀ (fuel : Nat) (rest : List Cmd), runC S (c :: rest) D.length = runC A.S cs 0 → (∀ a S' v', opCmd S c = .inr (a, S') → RO v' ((A.setF (-1)).setS S') (A.S, nI j) → wb_X10_commands_116 (fun x2' x3' x4' u' => wl_X10_commands_94 Q (fuel + 1) x2' x3' x4' u') Q (nI (D.length + 1)) (nI a) v') → wl_X10_commands_94 Q (fuel + 1 + 1) (nI D.length) x 1 v1 := fun fuel rest hr2 hgo => by
            rw [wl_X10_commands_94]
            refine jj1 (r_isCommand hc T1 hi p1 ?_)
            rw [hcm]
            intro v2 f2 q2 k2 d2 a2
            have o2' := f2.ro hO
            rw [q2] at o2'
            refine r_carries o2' k2 hk d2 a2 ?_
            rw [runC] at hr2
            show RRes ((A.setF (-1)).setS S) (A.S, nI j) _ (opCmd S c)
            cases ho : opCmd S c with
            | inl z =>
              obtain ⟨w, dd⟩ := z
              rw [ho] at hr2
              have hr2 : (Sum.inl (w, (dd, D.length)) : (Int32 × (Int32 × Nat)) ⊕ St) = runC A.S cs 0 := hr2
              rw [← hr2] at hq
              intro v3 o3
              refine ⟨fun _ => ?_, fun z => absurd m1_lt z⟩
              unfold wb_X10_commands_116 wb_X10_commands_133 wb_X10_commands_134
              refine ⟨fun _ => r_end_no o3 hS rfl (fun v5 i5 h17 => ?_), fun z => absurd m1_lt z⟩
              exact MPost.exc (j := 1) hq rfl i5 h17
            | inr z =>
              obtain ⟨a, S'⟩ := z
              intro v3 o3
              have ha : a < 2 ^ 31 := opCmd_lt hO.1.1 ho
              refine ⟨fun z => absurd z (nI_pos ha), fun _ x2 hx2 => ?_⟩
              rw [hx2, nI_1]
              exact hgo a S' v3 ho o3
          have stop : ∀ (a : Nat) (S' : St) (v' : MU), (prs A.text (m + 1) i).1 = [c] → runC S [c] D.length = runC A.S cs 0 → opCmd S c = .inr (a, S') → cs.length = D.length + 1 → RO v' ((A.setF (-1)).setS S') (A.S, nI j) → sgN A.text j ≠ 59 → wb_X10_commands_116 (fun x2' x3' x4' u' => wl_X10_commands_94 Q (0 + 1) x2' x3' x4' u') Q (nI (D.length + 1)) (nI a) v' := fun a S' v' hp hr2 ho hl o' h59 => by
            have ha : a < 2 ^ 31 := opCmd_lt hO.1.1 ho
            rw [runC, ho] at hr2
            have hr2 : (Sum.inr S' : (Int32 × (Int32 × Nat)) ⊕ St) = runC A.S cs 0 := hr2
            rw [← hr2] at hq
            have fin : wl_X10_commands_94 Q (0 + 1) (nI (D.length + 1)) (nI a) 0 v' := r_end_ok o' hS (by omega) (nI_pos ha) (fun v5 i5 h17 => by
              rw [hl] at hq
              exact MPost.ret hq rfl i5 h17)
            unfold wb_X10_commands_116 wb_X10_commands_133 wb_X10_commands_134
            exact ⟨fun z => absurd z (nI_pos ha), fun _ => r_takes (c := 59) hc o'.T o'.2.2.2.2.2.2 l2 (by decide) (by decide) (fun _ => jj0 fin) (fun z => absurd z h59)⟩
          by_cases h1 : A.text.length ≤ j
          · simp only [if_pos h1] at h2 hD hr ⊢
            have h59 : sgN A.text j ≠ 59 := fun e => by
              have := sg_in (T := A.text) (i := j) (by omega)
              omega
            refine step 0 [] hr (fun a S' v' ho o' => stop a S' v' ?_ hr ho ?_ o' h59)
            · rw [prs, hcm]; simp only [if_pos h1]
            · rw [hD, List.length_append, List.length_singleton]
          · simp only [if_neg h1] at h2 hD hr ⊢
            by_cases h59 : sgN A.text j = 59
            · simp only [if_pos h59] at h2 hD hr ⊢
              rw [List.length_cons]
              refine step (prs A.text m (j + 1)).1.length _ hr (fun a S' v' ho o' => ?_)
              have ha : a < 2 ^ 31 := opCmd_lt hO.1.1 ho
              unfold wb_X10_commands_116 wb_X10_commands_133 wb_X10_commands_134
              refine ⟨fun z => absurd z (nI_pos ha), fun _ => r_takes (c := 59) hc o'.T o'.2.2.2.2.2.2 l2 (by decide) (by decide) (fun z => absurd h59 z) (fun _ v5 e5 => jj1 ?_)⟩
              have o5 := ((CF.rf v').p e5).ro o'
              rw [show v5 117 10 = nI (j + 1) by rw [e5, u2_at]] at o5
              have := ih (j + 1) (D ++ [c]) S' (nI a) v5 (by omega) (by omega) h2 (by rw [List.append_assoc]; exact hD) o5 (by
                rw [runC, ho] at hr
                rw [List.length_append, List.length_singleton]
                exact hr)
              rw [List.length_append, List.length_singleton] at this
              exact this
            · simp only [if_neg h59] at h2
              cases h2
    unfold wb_X10_commands_59
    refine ii1 (fun a2 e2 => ⟨cs.length + 1, ?_⟩)
    have o6 := ((f'.p e2)).ro o4
    rw [show a2 117 10 = nI 0 by rw [e2, u2_at]; rfl] at o6
    have := loop 31 0 [] A.S 0 a2 (by decide) (Nat.zero_le _) hn (by rw [hcs]; rfl) o6 (by rw [hcs]; rfl)
    rw [hcs] at this
    exact this
  have fault : ∀ p v', (prs A.text 31 0).2 = some p → CF a4 v' → v' 117 10 = nI p → wb_X10_commands_59 Q 0 v' := fun p v' hp f' p' => by
    rw [hp] at hq
    unfold wb_X10_commands_59
    refine ii0 (fun b3 y3 b4 y4 b5 y5 => ?_)
    rw [p'] at y3
    have O' := f'.ro o4
    have O5 := RO_9 (RO_13 O' y3) y4
    obtain ⟨i5, h17⟩ : RI b5 ((A.setT []).setF (nI p)) ∧ b5 117 17 = 1 := ⟨RO_RI O5 (fun j hj => by rw [y5]; exact u2_o (Or.inr hj)) (fun a ha => by rw [y5]; exact u2_ne ha), by rw [y5, u2_at]⟩
    exact MPost.exc (j := 0) hq rfl i5 h17
  -- reading
  have syn : ∀ (m n i : Nat) (v' : MU), 62 ≤ 2 * m + i → i ≤ A.text.length → A.text.length + 1 ≤ n + i → (prs A.text m i).2 = (prs A.text 31 0).2 → RQ v' (fun r u => CF a4 u → wl_X10_commands_19 Q n r u) (cmdAt A.text i) := by
    intro m
    induction m with
    | zero => intro n i v' hm hi; omega
    | succ m ih =>
      intro n i v' hm hi hn h2
      obtain ⟨n', rfl⟩ : ∃ n', n = n' + 1 := ⟨n - 1, by omega⟩
      rw [prs] at h2
      cases hcm : cmdAt A.text i with
      | inl p =>
        rw [hcm] at h2
        intro v1 f1 p1 F1
        rw [wl_X10_commands_19]
        exact jj0 (fault p v1 h2.symm F1 p1)
      | inr z =>
        obtain ⟨j, c⟩ := z
        simp only [hcm] at h2
        obtain ⟨l1, l2⟩ := cmdAt_le hcm
        intro v1 f1 p1 k1 d1 a1 F1
        have T1 : TR v1 A.text := F1.T o4.T
        rw [wl_X10_commands_19, p1, T1.1]
        refine jj1 ⟨fun z => ?_, fun z => ?_⟩
        · have hl : A.text.length ≤ j := (nI_leI (by omega) (by omega)).mp z
          simp only [if_pos hl] at h2
          exact carry h2.symm v1 F1
        · have hl : ¬ A.text.length ≤ j := fun e => z (nI_le e (by omega))
          simp only [if_neg hl] at h2
          obtain ⟨n'', rfl⟩ : ∃ n'', n' = n'' + 1 := ⟨n' - 1, by omega⟩
          unfold wb_X10_commands_54 wb_X10_commands_55
          refine r_takes (c := 59) hc T1 p1 l2 (by decide) (by decide) (fun h59 => jj0 ?_) (fun h59 v2 e2 => jj1 ?_)
          · simp only [if_neg h59] at h2
            show wl_X10_commands_19 Q (n'' + 1) 0 v1
            rw [wl_X10_commands_19]
            exact jj0 (fault j v1 h2.symm F1 p1)
          · simp only [if_pos h59] at h2
            have F2 := F1.p e2
            have q2 : v2 117 10 = nI (j + 1) := by rw [e2, u2_at]
            refine r_isCommand hc (F2.T o4.T) (by omega) q2 ?_
            have := ih (n'' + 1) (j + 1) v2 (by omega) (by omega) (by omega) h2
            cases hc2 : cmdAt A.text (j + 1) with
            | inl p =>
              rw [hc2] at this
              exact fun v3 f3 p3 => jj0 (this v3 f3 p3 (F2.tr f3))
            | inr z =>
              obtain ⟨j2, c2⟩ := z
              rw [hc2] at this
              exact fun v3 f3 p3 k3 d3 a3 => jj1 (this v3 f3 p3 k3 d3 a3 (F2.tr f3))
  refine r_isCommand hc o4.T (Nat.zero_le _) p4 ?_
  have := syn 31 62 0 a4 (by decide) (Nat.zero_le _) (by omega) rfl
  cases hc2 : cmdAt A.text 0 with
  | inl p =>
    rw [hc2] at this
    exact fun v3 f3 p3 => ⟨62, this v3 f3 p3 f3⟩
  | inr z =>
    obtain ⟨j2, c2⟩ := z
    rw [hc2] at this
    exact fun v3 f3 p3 k3 d3 a3 => ⟨62, this v3 f3 p3 k3 d3 a3 f3⟩
