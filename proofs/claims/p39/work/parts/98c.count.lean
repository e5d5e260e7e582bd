/-! the class counts positions: count, longest, wonIn, drawn ones -/
theorem s_posAt {u : MU} {c : Cfg} {f : Nat → Nat} {i p : Nat} (hc : CfgOk c) (hT : TbIs u 95 c f) (hi : (lp c)[i]? = some p) {Q : Int32 → Prop} (h : Q (nI p)) : w_X7_positionAt 95 u (nI i) Q := by
  have hl := lp_len hc
  have hil := (List.getElem?_eq_some_iff.mp hi).1
  unfold w_X7_positionAt
  refine s_at (k := 95 + 1) (N := 336) rfl (by omega) (by decide) ?_
  rw [hT.2.1 i p hi]
  exact h
theorem getD {α : Type} {l D R : List α} {p : α} (h : l = D ++ p :: R) : l[D.length]? = some p ∧ l.length = D.length + (R.length + 1) ∧ p ∈ l ∧ l = (D ++ [p]) ++ R := by
  subst h
  exact ⟨by rw [List.getElem?_append_right (Nat.le_refl _), Nat.sub_self]; rfl, by rw [List.length_append, List.length_cons], List.mem_append_right _ List.mem_cons_self, by rw [List.append_assoc]; rfl⟩
theorem cp_app {P : Nat → Bool} {D : List Nat} {p : Nat} : (D ++ [p]).countP P = D.countP P + (if P p = true then 1 else 0) := by
  rw [List.countP_append, List.countP_singleton]
noncomputable def pCount (c : Cfg) (x : Int32) (b : Bool) (p : Nat) : Bool := decide (tu p = if b = true then 1 else 0) && decide (outI (slv c p) = x)
noncomputable def a_count (A : Ab) (x : Int32) (b : Bool) : Ans := if x < 0 then (1, (0, A)) else if 2 < x then (1, (0, A)) else (0, (nI ((lp A.S.cfg).countP (pCount A.S.cfg x b)), A))
/-- of several the first one with the greatest number -/
noncomputable def lgStep (c : Cfg) (b : Bool) (B : Option Nat) (p : Nat) : Option Nat := if pCount c 1 b p = true then (match B with
  | none => some p
  | some q => if slv c q < slv c p then some p else some q) else B
noncomputable def a_longest (A : Ab) (b : Bool) : Ans := match (lp A.S.cfg).foldl (lgStep A.S.cfg b) none with
  | none => (1, (0, A))
  | some p => (0, (nI p, A))
noncomputable def pIn (c : Cfg) (x : Int32) (p : Nat) : Bool := decide (nv (slv c p) = x)
noncomputable def a_wonIn (A : Ab) (x : Int32) : Ans := if x < 0 then (1, (0, A)) else (0, (nI ((lp A.S.cfg).countP (pIn A.S.cfg x)), A))
theorem tu_bI {p : Nat} {b : Bool} : nI (tu p) = bI b ↔ tu p = if b = true then 1 else 0 := by
  have := tu_lt p
  rw [show bI b = nI (if b = true then 1 else 0) by cases b <;> rfl]
  exact nI_eq (by omega) (by split <;> decide)
theorem L_count {V : Nat → Cfg} {W : Nat} {u : MU} {A : Ab} {o : Nat → Int64} {x : Int32} {b : Bool} {Q : Int32 → MU → (Nat → Int64) → Prop} (hC : CI V W u A none 0) (hW : W < 2 ^ 20) (hq : LPost W (a_count A x b) Q) : w_L_count x (bI b) u o Q := by
  unfold a_count at hq
  unfold w_L_count w_X9_count wb_X9_count_9
  refine ⟨fun h => ?_, fun h => ⟨fun h2 => ?_, fun h2 => ?_⟩⟩
  · rw [if_pos h] at hq
    exact ⟨rfl, LPost.exc (j := 0) hq (W' := W) (by omega) rfl hC⟩
  · rw [if_neg h, if_neg (fun z => (fa_of_lt z).2.1 h2)] at hq
    have hc := hC.c
    have hl := lp_len hc
    refine s_solve95 hC hW (fun u' c1 c2 c3 => ?_)
    have loop : ∀ (R D : List Nat), lp A.S.cfg = D ++ R → wl_X9_count_49 (fun r u1 => Q 0 u1 (vp_updL o ((0 : Int32)).toNatClampNeg r.toInt64)) (fun E u1 => (E = "java/lang/IllegalArgumentException" ∧ Q (1 : Int32) u1 o)) (R.length + 1) x (bI b) (nI (D.countP (pCount A.S.cfg x b))) (nI D.length) u' := by
      intro R
      induction R with
      | nil =>
        intro D hD
        rw [List.append_nil] at hD
        subst hD
        rw [List.length_nil, wl_X9_count_49, c2.1]
        exact ⟨fun _ => LPost.ret hq (W' := W) (by omega) rfl c1, fun z => absurd (nI_le (Nat.le_refl _) (by omega)) z⟩
      | cons p R ih =>
        intro D hD
        obtain ⟨g1, g2, g3, g4⟩ := getD hD
        have hp := (lp_mem hc).mp g3
        have IH := ih (D ++ [p]) g4
        rw [cp_app, List.length_append, List.length_singleton] at IH
        rw [List.length_cons, wl_X9_count_49, c2.1]
        unfold pCount at IH
        have no : (decide (tu p = if b = true then 1 else 0) && decide (outI (slv A.S.cfg p) = x)) = false → wb_X9_count_97 (fun x1' x3' x4' x5' u' => wl_X9_count_49 (fun r u1 => Q 0 u1 (vp_updL o ((0 : Int32)).toNatClampNeg r.toInt64)) (fun E u1 => (E = "java/lang/IllegalArgumentException" ∧ Q (1 : Int32) u1 o)) (R.length + 1) x1' x3' x4' x5' u') (fun r u1 => Q 0 u1 (vp_updL o ((0 : Int32)).toNatClampNeg r.toInt64)) (fun E u1 => (E = "java/lang/IllegalArgumentException" ∧ Q (1 : Int32) u1 o)) x (bI b) (nI (D.countP (pCount A.S.cfg x b))) (nI D.length) u' := fun e x5 hx5 => by
          rw [hx5, nI_1]
          rw [e, if_neg Bool.false_ne_true, Nat.add_zero] at IH
          exact IH
        refine ⟨fun z => absurd z (nI_ge (by omega) (by omega)), fun _ => s_posAt hc c2 g1 (s_tu (posB_spec.mp hp).1 ⟨fun z => no ?_, fun z => s_outcomeOf rfl c2.2.2 (slv_lt30 hc) hp ⟨fun z2 => no ?_, fun z2 x4 hx4 x5 hx5 => ?_⟩⟩)⟩
        · rw [decide_eq_false (fun e => z (tu_bI.mpr e))]; rfl
        · rw [decide_eq_false z2, Bool.and_false]
        · rw [hx5, hx4, nI_1, nI_1]
          rw [decide_eq_true (tu_bI.mp z), decide_eq_true z2, Bool.and_self, if_pos rfl] at IH
          exact IH
    unfold wb_X9_count_42
    exact bI_br (fun e => ⟨(lp A.S.cfg).length + 1, by have := loop (lp A.S.cfg) [] rfl; rw [e] at this; exact this⟩) (fun e => ⟨(lp A.S.cfg).length + 1, by have := loop (lp A.S.cfg) [] rfl; rw [e] at this; exact this⟩)
  · rw [if_neg h, if_pos (fa_of_nle h2)] at hq
    exact ⟨rfl, LPost.exc (j := 0) hq (W' := W) (by omega) rfl hC⟩
/-- found and most, as the class keeps them -/
noncomputable def lgF (B : Option Nat) : Int32 := match B with
  | none => -1
  | some p => nI p
noncomputable def lgM (c : Cfg) (B : Option Nat) : Int32 := match B with
  | none => -1
  | some p => nv (slv c p)
theorem L_longest {V : Nat → Cfg} {W : Nat} {u : MU} {A : Ab} {o : Nat → Int64} {b : Bool} {Q : Int32 → MU → (Nat → Int64) → Prop} (hC : CI V W u A none 0) (hW : W < 2 ^ 20) (hq : LPost W (a_longest A b) Q) : w_L_longest (bI b) u o Q := by
  have hc := hC.c
  have hl := lp_len hc
  unfold a_longest at hq
  unfold w_L_longest w_X9_longest wb_X9_longest_23
  refine s_solve95 hC hW (fun u' c1 c2 c3 => ?_)
  have loop : ∀ (R D : List Nat) (B : Option Nat), lp A.S.cfg = D ++ R → (∀ p, B = some p → posB A.S.cfg p = true) → R.foldl (lgStep A.S.cfg b) B = (lp A.S.cfg).foldl (lgStep A.S.cfg b) none → wl_X9_longest_32 (fun r u1 => Q 0 u1 (vp_updL o ((0 : Int32)).toNatClampNeg r.toInt64)) (fun E u1 => (E = "java/util/NoSuchElementException" ∧ Q (1 : Int32) u1 o)) (R.length + 1) (bI b) (lgF B) (lgM A.S.cfg B) (nI D.length) u' := by
    intro R
    induction R with
    | nil =>
      intro D B hD hB hF
      rw [List.append_nil] at hD
      subst hD
      rw [List.foldl_nil] at hF
      rw [← hF] at hq
      rw [List.length_nil, wl_X9_longest_32, c2.1]
      refine ⟨fun _ => ?_, fun z => absurd (nI_le (Nat.le_refl _) (by omega)) z⟩
      cases B with
      | none => exact ⟨fun z => absurd rfl z, fun _ => ⟨rfl, LPost.exc (j := 0) hq (W' := W) (by omega) rfl c1⟩⟩
      | some p =>
        have := (posB_spec.mp (hB p rfl)).1
        exact ⟨fun _ => LPost.ret hq (W' := W) (by omega) rfl c1, fun z => absurd z (opAns (show p < 2 ^ 31 by omega))⟩
    | cons p R ih =>
      intro D B hD hB hF
      obtain ⟨g1, g2, g3, g4⟩ := getD hD
      have hp := (lp_mem hc).mp g3
      rw [List.foldl_cons] at hF
      have IH := fun (B' : Option Nat) (e : lgStep A.S.cfg b B p = B') (hB' : ∀ p, B' = some p → posB A.S.cfg p = true) => ih (D ++ [p]) B' g4 hB' (by rw [← e]; exact hF)
      simp only [List.length_append, List.length_singleton] at IH
      rw [List.length_cons, wl_X9_longest_32, c2.1]
      have no : lgStep A.S.cfg b B p = B → wb_X9_longest_117 (fun x2' x3' x4' x5' u' => wl_X9_longest_32 (fun r u1 => Q 0 u1 (vp_updL o ((0 : Int32)).toNatClampNeg r.toInt64)) (fun E u1 => (E = "java/util/NoSuchElementException" ∧ Q (1 : Int32) u1 o)) (R.length + 1) x2' x3' x4' x5' u') (fun r u1 => Q 0 u1 (vp_updL o ((0 : Int32)).toNatClampNeg r.toInt64)) (fun E u1 => (E = "java/util/NoSuchElementException" ∧ Q (1 : Int32) u1 o)) (bI b) (lgF B) (lgM A.S.cfg B) (nI D.length) u' := fun e x5 hx5 => by
        rw [hx5, nI_1]
        exact IH B e hB
      have noP : pCount A.S.cfg 1 b p = false → lgStep A.S.cfg b B p = B := fun e => by unfold lgStep; rw [e, if_neg Bool.false_ne_true]
      have hb30 := slv_lt30 hc
      unfold wb_X9_longest_81 wb_X9_longest_82
      refine ⟨fun z => absurd z (nI_ge (by omega) (by omega)), fun _ => s_posAt hc c2 g1 (s_tu (posB_spec.mp hp).1 ⟨fun z => ⟨fun _ => no (noP ?_), fun z2 => absurd rfl z2⟩, fun z => s_outcomeOf rfl c2.2.2 hb30 hp ⟨fun z2 => ⟨fun _ => no (noP ?_), fun z3 => absurd rfl z3⟩, fun z2 => ⟨fun z3 => absurd z3 (by decide), fun _ => s_inMoves rfl c2.2.2 hp ⟨fun z4 => no ?_, fun z4 => s_inMoves rfl c2.2.2 hp (fun x5 hx5 => ?_)⟩⟩⟩⟩)⟩
      · unfold pCount; rw [decide_eq_false (fun e => z (tu_bI.mpr e))]; rfl
      · unfold pCount; rw [decide_eq_false z2, Bool.and_false]
      · have hP : pCount A.S.cfg 1 b p = true := by unfold pCount; rw [decide_eq_true (tu_bI.mp z), decide_eq_true z2]; rfl
        have hw := (outI_1 _).mp z2
        unfold lgStep
        rw [if_pos hP]
        cases B with
        | none =>
          exfalso
          have : nv (slv A.S.cfg p) ≤ nv 0 := by rw [nv_0]; exact z4
          have := (nv_le (hb30 p) (by decide)).mp this
          omega
        | some q =>
          have := (nv_le (hb30 p) (hb30 q)).mp z4
          show (if slv A.S.cfg q < slv A.S.cfg p then some p else some q) = some q
          rw [if_neg (by omega)]
      · have hP : pCount A.S.cfg 1 b p = true := by unfold pCount; rw [decide_eq_true (tu_bI.mp z), decide_eq_true z2]; rfl
        have e : lgStep A.S.cfg b B p = some p := by
          unfold lgStep
          rw [if_pos hP]
          cases B with
          | none => rfl
          | some q =>
            have : ¬ slv A.S.cfg p ≤ slv A.S.cfg q := fun z5 => z4 ((nv_le (hb30 p) (hb30 q)).mpr z5)
            show (if slv A.S.cfg q < slv A.S.cfg p then some p else some q) = some p
            rw [if_pos (by omega)]
        rw [hx5, nI_1]
        exact IH (some p) e (fun q hq => by cases hq; exact hp)
  exact bI_br (fun e => ⟨(lp A.S.cfg).length + 1, by have := loop (lp A.S.cfg) [] none rfl (fun p h => by cases h) rfl; rw [e] at this; exact this⟩) (fun e => ⟨(lp A.S.cfg).length + 1, by have := loop (lp A.S.cfg) [] none rfl (fun p h => by cases h) rfl; rw [e] at this; exact this⟩)
theorem s_positionsIn {V : Nat → Cfg} {W : Nat} {u : MU} {A : Ab} {B : Bf} {i : Int32} (hC : CI V W u A B i) (hW : W < 2 ^ 20) {x : Int32} {Q : Int32 → MU → Prop} (hq : ∀ u', CI V W u' A B i → TbIs u' 95 A.S.cfg (slv A.S.cfg) → Q (nI ((lp A.S.cfg).countP (pIn A.S.cfg x))) u') : w_X9_positionsIn x u Q := by
  have hc := hC.c
  have hl := lp_len hc
  unfold w_X9_positionsIn
  refine s_solve95 hC hW (fun u' c1 c2 c3 => ⟨(lp A.S.cfg).length + 1, ?_⟩)
  have loop : ∀ (R D : List Nat), lp A.S.cfg = D ++ R → wl_X9_positionsIn_18 Q (R.length + 1) x (nI (D.countP (pIn A.S.cfg x))) (nI D.length) u' := by
    intro R
    induction R with
    | nil =>
      intro D hD
      rw [List.append_nil] at hD
      subst hD
      rw [List.length_nil, wl_X9_positionsIn_18, c2.1]
      exact ⟨fun _ => hq u' c1 c2, fun z => absurd (nI_le (Nat.le_refl _) (by omega)) z⟩
    | cons p R ih =>
      intro D hD
      obtain ⟨g1, g2, g3, g4⟩ := getD hD
      have hp := (lp_mem hc).mp g3
      have IH := ih (D ++ [p]) g4
      rw [cp_app, List.length_append, List.length_singleton] at IH
      rw [List.length_cons, wl_X9_positionsIn_18, c2.1]
      refine ⟨fun z => absurd z (nI_ge (by omega) (by omega)), fun _ => s_posAt hc c2 g1 (s_inMoves rfl c2.2.2 hp ⟨fun z x3 hx3 => ?_, fun z x2 hx2 x3 hx3 => ?_⟩)⟩
      · rw [hx3, nI_1]
        rw [show pIn A.S.cfg x p = false from decide_eq_false z, if_neg Bool.false_ne_true, Nat.add_zero] at IH
        exact IH
      · rw [hx3, hx2, nI_1, nI_1]
        rw [show pIn A.S.cfg x p = true from decide_eq_true z, if_pos rfl] at IH
        exact IH
  exact loop (lp A.S.cfg) [] rfl
theorem L_wonIn {V : Nat → Cfg} {W : Nat} {u : MU} {A : Ab} {o : Nat → Int64} {x : Int32} {Q : Int32 → MU → (Nat → Int64) → Prop} (hC : CI V W u A none 0) (hW : W < 2 ^ 20) (hq : LPost W (a_wonIn A x) Q) : w_L_wonIn x u o Q := by
  unfold a_wonIn at hq
  unfold w_L_wonIn w_X9_wonIn
  refine ⟨fun h => ?_, fun h => ?_⟩
  · rw [if_neg (fun z => (fa_of_lt z).2.1 h)] at hq
    exact s_positionsIn hC hW (fun u' c1 c2 => LPost.ret hq (W' := W) (by omega) rfl c1)
  · rw [if_pos (fa_of_nle h)] at hq
    exact ⟨rfl, LPost.exc (j := 0) hq (W' := W) (by omega) rfl hC⟩
