/-! THE LAW's rounds -/
theorem lt_undo {A : Ab} : (a_undo A).1 < 3 := by
  unfold a_undo
  (repeat' split) <;> first | exact (by decide : (0 : Nat) < 3) | exact (by decide : (1 : Nat) < 3) | exact (by decide : (2 : Nat) < 3)
theorem lt_restore {A : Ab} : (a_restore A).1 < 3 := by
  unfold a_restore
  (repeat' split) <;> first | exact (by decide : (0 : Nat) < 3) | exact (by decide : (1 : Nat) < 3) | exact (by decide : (2 : Nat) < 3)
theorem lt_position {A : Ab} {x : Int32} {y : Int32} {z : Int32} {b : Bool} : (a_position A x y z b).1 < 3 := by
  unfold a_position
  (repeat' split) <;> first | exact (by decide : (0 : Nat) < 3) | exact (by decide : (1 : Nat) < 3) | exact (by decide : (2 : Nat) < 3)
theorem lt_positionOf {A : Ab} {x : Int32} {y : Int32} : (a_positionOf A x y).1 < 3 := by
  unfold a_positionOf
  (repeat' split) <;> first | exact (by decide : (0 : Nat) < 3) | exact (by decide : (1 : Nat) < 3) | exact (by decide : (2 : Nat) < 3)
theorem lt_outcomeAgain {A : Ab} {x : Int32} : (a_outcomeAgain A x).1 < 3 := by
  unfold a_outcomeAgain
  (repeat' split) <;> first | exact (by decide : (0 : Nat) < 3) | exact (by decide : (1 : Nat) < 3) | exact (by decide : (2 : Nat) < 3)
theorem lt_moveOf {A : Ab} {x : Int32} {y : Int32} {b : Bool} : (a_moveOf A x y b).1 < 3 := by
  unfold a_moveOf
  (repeat' split) <;> first | exact (by decide : (0 : Nat) < 3) | exact (by decide : (1 : Nat) < 3) | exact (by decide : (2 : Nat) < 3)
theorem lt_best {A : Ab} {x : Int32} : (a_best A x).1 < 3 := by
  unfold a_best
  (repeat' split) <;> first | exact (by decide : (0 : Nat) < 3) | exact (by decide : (1 : Nat) < 3) | exact (by decide : (2 : Nat) < 3)
theorem lt_after {A : Ab} {x : Int32} {y : Int32} {z : Int32} : (a_after A x y z).1 < 3 := by
  unfold a_after
  (repeat' split) <;> first | exact (by decide : (0 : Nat) < 3) | exact (by decide : (1 : Nat) < 3) | exact (by decide : (2 : Nat) < 3)
theorem lt_ends {A : Ab} {x : Int32} : (a_ends A x).1 < 3 := by
  unfold a_ends
  (repeat' split) <;> first | exact (by decide : (0 : Nat) < 3) | exact (by decide : (1 : Nat) < 3) | exact (by decide : (2 : Nat) < 3)
theorem lt_count {A : Ab} {x : Int32} {b : Bool} : (a_count A x b).1 < 3 := by
  unfold a_count
  (repeat' split) <;> first | exact (by decide : (0 : Nat) < 3) | exact (by decide : (1 : Nat) < 3) | exact (by decide : (2 : Nat) < 3)
theorem lt_longest {A : Ab} {b : Bool} : (a_longest A b).1 < 3 := by
  unfold a_longest
  (repeat' split) <;> first | exact (by decide : (0 : Nat) < 3) | exact (by decide : (1 : Nat) < 3) | exact (by decide : (2 : Nat) < 3)
theorem lt_wonIn {A : Ab} {x : Int32} : (a_wonIn A x).1 < 3 := by
  unfold a_wonIn
  (repeat' split) <;> first | exact (by decide : (0 : Nat) < 3) | exact (by decide : (1 : Nat) < 3) | exact (by decide : (2 : Nat) < 3)
theorem lt_wouldChange {A : Ab} {x : Int32} {y : Int32} : (a_wouldChange A x y).1 < 3 := by
  unfold a_wouldChange
  (repeat' split) <;> first | exact (by decide : (0 : Nat) < 3) | exact (by decide : (1 : Nat) < 3) | exact (by decide : (2 : Nat) < 3)
theorem lt_bestBurrow {A : Ab} {x : Int32} : (a_bestBurrow A x).1 < 3 := by
  unfold a_bestBurrow
  (repeat' split) <;> first | exact (by decide : (0 : Nat) < 3) | exact (by decide : (1 : Nat) < 3) | exact (by decide : (2 : Nat) < 3)
theorem lt_burrowOf {A : Ab} {x : Int32} {y : Int32} : (a_burrowOf A x y).1 < 3 := by
  unfold a_burrowOf
  (repeat' split) <;> first | exact (by decide : (0 : Nat) < 3) | exact (by decide : (1 : Nat) < 3) | exact (by decide : (2 : Nat) < 3)
theorem lt_pathOf {A : Ab} {x : Int32} {b : Bool} : (a_pathOf A x b).1 < 3 := by
  unfold a_pathOf
  (repeat' split) <;> first | exact (by decide : (0 : Nat) < 3) | exact (by decide : (1 : Nat) < 3) | exact (by decide : (2 : Nat) < 3)
theorem lt_now {A : Ab} : (a_now A).1 < 3 := by
  unfold a_now
  (repeat' split) <;> first | exact (by decide : (0 : Nat) < 3) | exact (by decide : (1 : Nat) < 3) | exact (by decide : (2 : Nat) < 3)
theorem lt_account {A : Ab} {x : Int32} : (a_account A x).1 < 3 := by
  unfold a_account
  (repeat' split) <;> first | exact (by decide : (0 : Nat) < 3) | exact (by decide : (1 : Nat) < 3) | exact (by decide : (2 : Nat) < 3)
theorem lt_append {A : Ab} {x : Int32} : (a_append A x).1 < 3 := by
  unfold a_append
  (repeat' split) <;> first | exact (by decide : (0 : Nat) < 3) | exact (by decide : (1 : Nat) < 3) | exact (by decide : (2 : Nat) < 3)
theorem lt_reason {A : Ab} {x : Int32} : (a_reason A x).1 < 3 := by
  unfold a_reason
  (repeat' split) <;> first | exact (by decide : (0 : Nat) < 3) | exact (by decide : (1 : Nat) < 3) | exact (by decide : (2 : Nat) < 3)
theorem lt_character {A : Ab} {x : Int32} : (a_character A x).1 < 3 := by
  unfold a_character
  (repeat' split) <;> first | exact (by decide : (0 : Nat) < 3) | exact (by decide : (1 : Nat) < 3) | exact (by decide : (2 : Nat) < 3)
theorem lt_commands {A : Ab} : (a_commands A).1 < 3 := by
  unfold a_commands
  (repeat' split) <;> first | exact (by decide : (0 : Nat) < 3) | exact (by decide : (1 : Nat) < 3) | exact (by decide : (2 : Nat) < 3)
theorem lt_change {A : Ab} {r : Rs} : (a_change A r).1 < 3 := by
  cases r with
  | inl z => exact (by decide : (1 : Nat) < 3)
  | inr z => exact (by decide : (0 : Nat) < 3)
theorem lt_mean {A : Ab} : (a_mean A).1 < 3 := by
  unfold a_mean
  (repeat' split) <;> first | exact (by decide : (0 : Nat) < 3) | exact (by decide : (1 : Nat) < 3)
theorem lt_drawn {A : Ab} : (a_drawn A).1 < 3 := by
  unfold a_drawn
  (repeat' split) <;> first | exact (by decide : (0 : Nat) < 3) | exact (by decide : (1 : Nat) < 3)
/-- what the next round takes -/
def NX (L28 : Int32 → MU → MU → (Nat → Int64) → (Nat → UInt64) → Prop) (x5 : Int32) (W : Nat) : Prop := ∀ V' W' u' v' A' o' dd', W' ≤ W + 40 → CI V' W' u' A' none 0 → RI v' A' → L28 (x5 + 5) u' v' o' dd'
theorem law_cmp {k : Ans} {r1 r4 : Int32} {o : Nat → Int64} {v : MU} {P : Prop} (h1 : r1 = nI k.1) (ho : k.1 = 0 → o 0 = k.2.1.toInt64) (h17 : v 117 17 = nI k.1) (hr : k.1 = 0 → r4 = k.2.1) (hk : k.1 < 3) (hP : P) :
    w_X10_thrown v (fun r6 => ((r6 = r1) → ((¬ r1 = 0) → P) ∧ ((r1 = 0) → (((lg_cmp (o ((0 : Int32)).toNatClampNeg) r4.toInt64) = 0) → P) ∧ ((¬ (lg_cmp (o ((0 : Int32)).toNatClampNeg) r4.toInt64) = 0) → False))) ∧ ((¬ r6 = r1) → False)) := by
  unfold w_X10_thrown
  rw [h17, h1]
  refine ⟨fun _ => ⟨fun _ => hP, fun z => ⟨fun _ => hP, fun z2 => ?_⟩⟩, fun z => z rfl⟩
  have h0 : k.1 = 0 := (nI_eq (b := 0) (by omega) (by decide)).mp z
  refine z2 ?_
  rw [lg_cmp_eq, hr h0]
  exact ho h0
theorem q_dig {xs : Nat → Int32} {L : Nat} {L28 : Int32 → MU → MU → (Nat → Int64) → (Nat → UInt64) → Prop} {x5 : Int32} {u v : MU} {o : Nat → Int64} {dd : Nat → UInt64} {V : Nat → Cfg} {W : Nat} {A : Ab} (hC : CI V W u A none 0) (hI : RI v A) (hW : W + 40 < 2 ^ 20) (hn : NX L28 x5 W) (h : ∀ j, j = 1 ∨ j = 2 ∨ j = 3 ∨ j = 4 → vp_in (x5 + j) L) : wb_law_204 xs L L28 x5 u v o dd := by
  unfold wb_law_204 wb_law_245 wb_law_2328
  exact L_dig hC (fun V' W' u' o' hW' c' ho => M_dig hI (fun v' r i' h17 hr => law_cmp rfl ho h17 hr lt_change (fun x6 e => by rw [e]; exact hn V' W' u' v' _ _ _ hW' c' i')))
theorem q_tread {xs : Nat → Int32} {L : Nat} {L28 : Int32 → MU → MU → (Nat → Int64) → (Nat → UInt64) → Prop} {x5 : Int32} {u v : MU} {o : Nat → Int64} {dd : Nat → UInt64} {V : Nat → Cfg} {W : Nat} {A : Ab} (hC : CI V W u A none 0) (hI : RI v A) (hW : W + 40 < 2 ^ 20) (hn : NX L28 x5 W) (h : ∀ j, j = 1 ∨ j = 2 ∨ j = 3 ∨ j = 4 → vp_in (x5 + j) L) : wb_law_248 xs L L28 x5 u v o dd := by
  unfold wb_law_248 wb_law_313 wb_law_2328
  exact ⟨h 1 (by decide), h 2 (by decide), L_tread hC (fun V' W' u' o' hW' c' ho => ⟨h 1 (by decide), h 2 (by decide), M_tread hI (fun v' r i' h17 hr => law_cmp rfl ho h17 hr lt_change (fun x6 e => by rw [e]; exact hn V' W' u' v' _ _ _ hW' c' i'))⟩)⟩
theorem q_grow {xs : Nat → Int32} {L : Nat} {L28 : Int32 → MU → MU → (Nat → Int64) → (Nat → UInt64) → Prop} {x5 : Int32} {u v : MU} {o : Nat → Int64} {dd : Nat → UInt64} {V : Nat → Cfg} {W : Nat} {A : Ab} (hC : CI V W u A none 0) (hI : RI v A) (hW : W + 40 < 2 ^ 20) (hn : NX L28 x5 W) (h : ∀ j, j = 1 ∨ j = 2 ∨ j = 3 ∨ j = 4 → vp_in (x5 + j) L) : wb_law_316 xs L L28 x5 u v o dd := by
  unfold wb_law_316 wb_law_381 wb_law_2328
  exact ⟨h 1 (by decide), h 2 (by decide), L_grow hC (fun V' W' u' o' hW' c' ho => ⟨h 1 (by decide), h 2 (by decide), M_grow hI (fun v' r i' h17 hr => law_cmp rfl ho h17 hr lt_change (fun x6 e => by rw [e]; exact hn V' W' u' v' _ _ _ hW' c' i'))⟩)⟩
theorem q_trap {xs : Nat → Int32} {L : Nat} {L28 : Int32 → MU → MU → (Nat → Int64) → (Nat → UInt64) → Prop} {x5 : Int32} {u v : MU} {o : Nat → Int64} {dd : Nat → UInt64} {V : Nat → Cfg} {W : Nat} {A : Ab} (hC : CI V W u A none 0) (hI : RI v A) (hW : W + 40 < 2 ^ 20) (hn : NX L28 x5 W) (h : ∀ j, j = 1 ∨ j = 2 ∨ j = 3 ∨ j = 4 → vp_in (x5 + j) L) : wb_law_384 xs L L28 x5 u v o dd := by
  have mid : ∀ b : Bool, ((xs ((x5 + (2 : Int32))).toNatClampNeg) = 0 ↔ b = false) → wb_law_405 xs L L28 x5 (bI b) (xs ((x5 + (1 : Int32))).toNatClampNeg) u v o dd := fun b hb => by
    unfold wb_law_405
    refine L_trap hC (fun V' W' u' o' hW' c' ho => ⟨h 1 (by decide), h 2 (by decide),  fun z => ?_, fun z => ?_⟩)
    · have e := hb.mp z
      subst e
      unfold wb_law_432 wb_law_465 wb_law_2328
      exact M_trap (b := false) hI (fun v' r i' h17 hr => law_cmp rfl ho h17 hr lt_change (fun x6 e => by rw [e]; exact hn V' W' u' v' _ _ _ hW' c' i'))
    · have e : b = true := by
        cases b with
        | true => rfl
        | false => exact absurd (hb.mpr rfl) z
      subst e
      unfold wb_law_432 wb_law_465 wb_law_2328
      exact M_trap (b := true) hI (fun v' r i' h17 hr => law_cmp rfl ho h17 hr lt_change (fun x6 e => by rw [e]; exact hn V' W' u' v' _ _ _ hW' c' i'))
  unfold wb_law_384
  exact ⟨h 1 (by decide), h 2 (by decide),  fun z => mid false ⟨fun _ => rfl, fun _ => z⟩, fun z => mid true ⟨fun z2 => absurd z2 z, fun z2 => (by cases z2)⟩⟩
theorem q_flock {xs : Nat → Int32} {L : Nat} {L28 : Int32 → MU → MU → (Nat → Int64) → (Nat → UInt64) → Prop} {x5 : Int32} {u v : MU} {o : Nat → Int64} {dd : Nat → UInt64} {V : Nat → Cfg} {W : Nat} {A : Ab} (hC : CI V W u A none 0) (hI : RI v A) (hW : W + 40 < 2 ^ 20) (hn : NX L28 x5 W) (h : ∀ j, j = 1 ∨ j = 2 ∨ j = 3 ∨ j = 4 → vp_in (x5 + j) L) : wb_law_468 xs L L28 x5 u v o dd := by
  unfold wb_law_468 wb_law_521 wb_law_2328
  exact ⟨h 1 (by decide), L_flock hC (fun V' W' u' o' hW' c' ho => ⟨h 1 (by decide), M_flock hI (fun v' r i' h17 hr => law_cmp rfl ho h17 hr lt_change (fun x6 e => by rw [e]; exact hn V' W' u' v' _ _ _ hW' c' i'))⟩)⟩
theorem q_begin {xs : Nat → Int32} {L : Nat} {L28 : Int32 → MU → MU → (Nat → Int64) → (Nat → UInt64) → Prop} {x5 : Int32} {u v : MU} {o : Nat → Int64} {dd : Nat → UInt64} {V : Nat → Cfg} {W : Nat} {A : Ab} (hC : CI V W u A none 0) (hI : RI v A) (hW : W + 40 < 2 ^ 20) (hn : NX L28 x5 W) (h : ∀ j, j = 1 ∨ j = 2 ∨ j = 3 ∨ j = 4 → vp_in (x5 + j) L) : wb_law_524 xs L L28 x5 u v o dd := by
  unfold wb_law_524 wb_law_577 wb_law_2328
  exact ⟨h 1 (by decide), L_begin hC (fun V' W' u' o' hW' c' ho => ⟨h 1 (by decide), M_begin hI (fun v' r i' h17 hr => law_cmp rfl ho h17 hr lt_change (fun x6 e => by rw [e]; exact hn V' W' u' v' _ _ _ hW' c' i'))⟩)⟩
theorem q_move {xs : Nat → Int32} {L : Nat} {L28 : Int32 → MU → MU → (Nat → Int64) → (Nat → UInt64) → Prop} {x5 : Int32} {u v : MU} {o : Nat → Int64} {dd : Nat → UInt64} {V : Nat → Cfg} {W : Nat} {A : Ab} (hC : CI V W u A none 0) (hI : RI v A) (hW : W + 40 < 2 ^ 20) (hn : NX L28 x5 W) (h : ∀ j, j = 1 ∨ j = 2 ∨ j = 3 ∨ j = 4 → vp_in (x5 + j) L) : wb_law_580 xs L L28 x5 u v o dd := by
  unfold wb_law_580 wb_law_645 wb_law_2328
  exact ⟨h 1 (by decide), h 2 (by decide), L_move hC (fun V' W' u' o' hW' c' ho => ⟨h 1 (by decide), h 2 (by decide), M_move hI (fun v' r i' h17 hr => law_cmp rfl ho h17 hr lt_change (fun x6 e => by rw [e]; exact hn V' W' u' v' _ _ _ hW' c' i'))⟩)⟩
theorem q_play {xs : Nat → Int32} {L : Nat} {L28 : Int32 → MU → MU → (Nat → Int64) → (Nat → UInt64) → Prop} {x5 : Int32} {u v : MU} {o : Nat → Int64} {dd : Nat → UInt64} {V : Nat → Cfg} {W : Nat} {A : Ab} (hC : CI V W u A none 0) (hI : RI v A) (hW : W + 40 < 2 ^ 20) (hn : NX L28 x5 W) (h : ∀ j, j = 1 ∨ j = 2 ∨ j = 3 ∨ j = 4 → vp_in (x5 + j) L) : wb_law_648 xs L L28 x5 u v o dd := by
  unfold wb_law_648 wb_law_701 wb_law_2328
  exact ⟨h 1 (by decide), L_play hC (by omega) (fun V' W' u' o' hW' c' ho => ⟨h 1 (by decide), M_play hI (fun v' r i' h17 hr => law_cmp rfl ho h17 hr lt_change (fun x6 e => by rw [e]; exact hn V' W' u' v' _ _ _ hW' c' i'))⟩)⟩
theorem q_back {xs : Nat → Int32} {L : Nat} {L28 : Int32 → MU → MU → (Nat → Int64) → (Nat → UInt64) → Prop} {x5 : Int32} {u v : MU} {o : Nat → Int64} {dd : Nat → UInt64} {V : Nat → Cfg} {W : Nat} {A : Ab} (hC : CI V W u A none 0) (hI : RI v A) (hW : W + 40 < 2 ^ 20) (hn : NX L28 x5 W) (h : ∀ j, j = 1 ∨ j = 2 ∨ j = 3 ∨ j = 4 → vp_in (x5 + j) L) : wb_law_704 xs L L28 x5 u v o dd := by
  unfold wb_law_704 wb_law_745 wb_law_2328
  exact L_back hC (fun V' W' u' o' hW' c' ho => M_back hI (fun v' r i' h17 hr => law_cmp rfl ho h17 hr lt_change (fun x6 e => by rw [e]; exact hn V' W' u' v' _ _ _ hW' c' i')))
theorem q_position {xs : Nat → Int32} {L : Nat} {L28 : Int32 → MU → MU → (Nat → Int64) → (Nat → UInt64) → Prop} {x5 : Int32} {u v : MU} {o : Nat → Int64} {dd : Nat → UInt64} {V : Nat → Cfg} {W : Nat} {A : Ab} (hC : CI V W u A none 0) (hI : RI v A) (hW : W + 40 < 2 ^ 20) (hn : NX L28 x5 W) (h : ∀ j, j = 1 ∨ j = 2 ∨ j = 3 ∨ j = 4 → vp_in (x5 + j) L) : wb_law_748 xs L L28 x5 u v o dd := by
  have mid : ∀ b : Bool, ((xs ((x5 + (4 : Int32))).toNatClampNeg) = 0 ↔ b = false) → wb_law_781 xs L L28 x5 (bI b) (xs ((x5 + (3 : Int32))).toNatClampNeg) (xs ((x5 + (2 : Int32))).toNatClampNeg) (xs ((x5 + (1 : Int32))).toNatClampNeg) u v o dd := fun b hb => by
    unfold wb_law_781
    refine L_position hC (fun V' W' u' o' hW' c' ho => ⟨h 1 (by decide), h 2 (by decide), h 3 (by decide), h 4 (by decide),  fun z => ?_, fun z => ?_⟩)
    · have e := hb.mp z
      subst e
      unfold wb_law_820 wb_law_853 wb_law_2328
      exact M_position (b := false) hI (fun v' r i' h17 hr => law_cmp rfl ho h17 hr lt_position (fun x6 e => by rw [e]; exact hn V' W' u' v' _ _ _ hW' c' i'))
    · have e : b = true := by
        cases b with
        | true => rfl
        | false => exact absurd (hb.mpr rfl) z
      subst e
      unfold wb_law_820 wb_law_853 wb_law_2328
      exact M_position (b := true) hI (fun v' r i' h17 hr => law_cmp rfl ho h17 hr lt_position (fun x6 e => by rw [e]; exact hn V' W' u' v' _ _ _ hW' c' i'))
  unfold wb_law_748
  exact ⟨h 1 (by decide), h 2 (by decide), h 3 (by decide), h 4 (by decide),  fun z => mid false ⟨fun _ => rfl, fun _ => z⟩, fun z => mid true ⟨fun z2 => absurd z2 z, fun z2 => (by cases z2)⟩⟩
theorem q_positionOf {xs : Nat → Int32} {L : Nat} {L28 : Int32 → MU → MU → (Nat → Int64) → (Nat → UInt64) → Prop} {x5 : Int32} {u v : MU} {o : Nat → Int64} {dd : Nat → UInt64} {V : Nat → Cfg} {W : Nat} {A : Ab} (hC : CI V W u A none 0) (hI : RI v A) (hW : W + 40 < 2 ^ 20) (hn : NX L28 x5 W) (h : ∀ j, j = 1 ∨ j = 2 ∨ j = 3 ∨ j = 4 → vp_in (x5 + j) L) : wb_law_856 xs L L28 x5 u v o dd := by
  unfold wb_law_856 wb_law_921 wb_law_2328
  exact ⟨h 1 (by decide), h 2 (by decide), L_positionOf hC (by omega) (fun V' W' u' o' hW' c' ho => ⟨h 1 (by decide), h 2 (by decide), M_positionOf hI (fun v' r i' h17 hr => law_cmp rfl ho h17 hr lt_positionOf (fun x6 e => by rw [e]; exact hn V' W' u' v' _ _ _ hW' c' i'))⟩)⟩
theorem q_outcomeAgain {xs : Nat → Int32} {L : Nat} {L28 : Int32 → MU → MU → (Nat → Int64) → (Nat → UInt64) → Prop} {x5 : Int32} {u v : MU} {o : Nat → Int64} {dd : Nat → UInt64} {V : Nat → Cfg} {W : Nat} {A : Ab} (hC : CI V W u A none 0) (hI : RI v A) (hW : W + 40 < 2 ^ 20) (hn : NX L28 x5 W) (h : ∀ j, j = 1 ∨ j = 2 ∨ j = 3 ∨ j = 4 → vp_in (x5 + j) L) : wb_law_924 xs L L28 x5 u v o dd := by
  unfold wb_law_924 wb_law_977 wb_law_2328
  exact ⟨h 1 (by decide), L_outcomeAgain hC (by omega) (fun V' W' u' o' hW' c' ho => ⟨h 1 (by decide), M_outcomeAgain hI (fun v' r i' h17 hr => law_cmp rfl ho h17 hr lt_outcomeAgain (fun x6 e => by rw [e]; exact hn V' W' u' v' _ _ _ hW' c' i'))⟩)⟩
theorem q_moveOf {xs : Nat → Int32} {L : Nat} {L28 : Int32 → MU → MU → (Nat → Int64) → (Nat → UInt64) → Prop} {x5 : Int32} {u v : MU} {o : Nat → Int64} {dd : Nat → UInt64} {V : Nat → Cfg} {W : Nat} {A : Ab} (hC : CI V W u A none 0) (hI : RI v A) (hW : W + 40 < 2 ^ 20) (hn : NX L28 x5 W) (h : ∀ j, j = 1 ∨ j = 2 ∨ j = 3 ∨ j = 4 → vp_in (x5 + j) L) : wb_law_980 xs L L28 x5 u v o dd := by
  have mid : ∀ b : Bool, ((xs ((x5 + (3 : Int32))).toNatClampNeg) = 0 ↔ b = false) → wb_law_1007 xs L L28 x5 (bI b) (xs ((x5 + (2 : Int32))).toNatClampNeg) (xs ((x5 + (1 : Int32))).toNatClampNeg) u v o dd := fun b hb => by
    unfold wb_law_1007
    refine L_moveOf hC (fun V' W' u' o' hW' c' ho => ⟨h 1 (by decide), h 2 (by decide), h 3 (by decide),  fun z => ?_, fun z => ?_⟩)
    · have e := hb.mp z
      subst e
      unfold wb_law_1040 wb_law_1073 wb_law_2328
      exact M_moveOf (b := false) hI (fun v' r i' h17 hr => law_cmp rfl ho h17 hr lt_moveOf (fun x6 e => by rw [e]; exact hn V' W' u' v' _ _ _ hW' c' i'))
    · have e : b = true := by
        cases b with
        | true => rfl
        | false => exact absurd (hb.mpr rfl) z
      subst e
      unfold wb_law_1040 wb_law_1073 wb_law_2328
      exact M_moveOf (b := true) hI (fun v' r i' h17 hr => law_cmp rfl ho h17 hr lt_moveOf (fun x6 e => by rw [e]; exact hn V' W' u' v' _ _ _ hW' c' i'))
  unfold wb_law_980
  exact ⟨h 1 (by decide), h 2 (by decide), h 3 (by decide),  fun z => mid false ⟨fun _ => rfl, fun _ => z⟩, fun z => mid true ⟨fun z2 => absurd z2 z, fun z2 => (by cases z2)⟩⟩
theorem q_best {xs : Nat → Int32} {L : Nat} {L28 : Int32 → MU → MU → (Nat → Int64) → (Nat → UInt64) → Prop} {x5 : Int32} {u v : MU} {o : Nat → Int64} {dd : Nat → UInt64} {V : Nat → Cfg} {W : Nat} {A : Ab} (hC : CI V W u A none 0) (hI : RI v A) (hW : W + 40 < 2 ^ 20) (hn : NX L28 x5 W) (h : ∀ j, j = 1 ∨ j = 2 ∨ j = 3 ∨ j = 4 → vp_in (x5 + j) L) : wb_law_1076 xs L L28 x5 u v o dd := by
  unfold wb_law_1076 wb_law_1129 wb_law_2328
  exact ⟨h 1 (by decide), L_best hC (by omega) (fun V' W' u' o' hW' c' ho => ⟨h 1 (by decide), M_best hI (fun v' r i' h17 hr => law_cmp rfl ho h17 hr lt_best (fun x6 e => by rw [e]; exact hn V' W' u' v' _ _ _ hW' c' i'))⟩)⟩
theorem q_after {xs : Nat → Int32} {L : Nat} {L28 : Int32 → MU → MU → (Nat → Int64) → (Nat → UInt64) → Prop} {x5 : Int32} {u v : MU} {o : Nat → Int64} {dd : Nat → UInt64} {V : Nat → Cfg} {W : Nat} {A : Ab} (hC : CI V W u A none 0) (hI : RI v A) (hW : W + 40 < 2 ^ 20) (hn : NX L28 x5 W) (h : ∀ j, j = 1 ∨ j = 2 ∨ j = 3 ∨ j = 4 → vp_in (x5 + j) L) : wb_law_1132 xs L L28 x5 u v o dd := by
  unfold wb_law_1132 wb_law_1209 wb_law_2328
  exact ⟨h 1 (by decide), h 2 (by decide), h 3 (by decide), L_after hC (fun V' W' u' o' hW' c' ho => ⟨h 1 (by decide), h 2 (by decide), h 3 (by decide), M_after hI (fun v' r i' h17 hr => law_cmp rfl ho h17 hr lt_after (fun x6 e => by rw [e]; exact hn V' W' u' v' _ _ _ hW' c' i'))⟩)⟩
theorem q_ends {xs : Nat → Int32} {L : Nat} {L28 : Int32 → MU → MU → (Nat → Int64) → (Nat → UInt64) → Prop} {x5 : Int32} {u v : MU} {o : Nat → Int64} {dd : Nat → UInt64} {V : Nat → Cfg} {W : Nat} {A : Ab} (hC : CI V W u A none 0) (hI : RI v A) (hW : W + 40 < 2 ^ 20) (hn : NX L28 x5 W) (h : ∀ j, j = 1 ∨ j = 2 ∨ j = 3 ∨ j = 4 → vp_in (x5 + j) L) : wb_law_1212 xs L L28 x5 u v o dd := by
  unfold wb_law_1212 wb_law_1265 wb_law_2328
  exact ⟨h 1 (by decide), L_ends hC (by omega) (fun V' W' u' o' hW' c' ho => ⟨h 1 (by decide), M_ends hI (fun v' r i' h17 hr => law_cmp rfl ho h17 hr lt_ends (fun x6 e => by rw [e]; exact hn V' W' u' v' _ _ _ hW' c' i'))⟩)⟩
theorem q_count {xs : Nat → Int32} {L : Nat} {L28 : Int32 → MU → MU → (Nat → Int64) → (Nat → UInt64) → Prop} {x5 : Int32} {u v : MU} {o : Nat → Int64} {dd : Nat → UInt64} {V : Nat → Cfg} {W : Nat} {A : Ab} (hC : CI V W u A none 0) (hI : RI v A) (hW : W + 40 < 2 ^ 20) (hn : NX L28 x5 W) (h : ∀ j, j = 1 ∨ j = 2 ∨ j = 3 ∨ j = 4 → vp_in (x5 + j) L) : wb_law_1268 xs L L28 x5 u v o dd := by
  have mid : ∀ b : Bool, ((xs ((x5 + (2 : Int32))).toNatClampNeg) = 0 ↔ b = false) → wb_law_1289 xs L L28 x5 (bI b) (xs ((x5 + (1 : Int32))).toNatClampNeg) u v o dd := fun b hb => by
    unfold wb_law_1289
    refine L_count hC (by omega) (fun V' W' u' o' hW' c' ho => ⟨h 1 (by decide), h 2 (by decide),  fun z => ?_, fun z => ?_⟩)
    · have e := hb.mp z
      subst e
      unfold wb_law_1316 wb_law_1349 wb_law_2328
      exact M_count (b := false) hI (fun v' r i' h17 hr => law_cmp rfl ho h17 hr lt_count (fun x6 e => by rw [e]; exact hn V' W' u' v' _ _ _ hW' c' i'))
    · have e : b = true := by
        cases b with
        | true => rfl
        | false => exact absurd (hb.mpr rfl) z
      subst e
      unfold wb_law_1316 wb_law_1349 wb_law_2328
      exact M_count (b := true) hI (fun v' r i' h17 hr => law_cmp rfl ho h17 hr lt_count (fun x6 e => by rw [e]; exact hn V' W' u' v' _ _ _ hW' c' i'))
  unfold wb_law_1268
  exact ⟨h 1 (by decide), h 2 (by decide),  fun z => mid false ⟨fun _ => rfl, fun _ => z⟩, fun z => mid true ⟨fun z2 => absurd z2 z, fun z2 => (by cases z2)⟩⟩
theorem q_longest {xs : Nat → Int32} {L : Nat} {L28 : Int32 → MU → MU → (Nat → Int64) → (Nat → UInt64) → Prop} {x5 : Int32} {u v : MU} {o : Nat → Int64} {dd : Nat → UInt64} {V : Nat → Cfg} {W : Nat} {A : Ab} (hC : CI V W u A none 0) (hI : RI v A) (hW : W + 40 < 2 ^ 20) (hn : NX L28 x5 W) (h : ∀ j, j = 1 ∨ j = 2 ∨ j = 3 ∨ j = 4 → vp_in (x5 + j) L) : wb_law_1352 xs L L28 x5 u v o dd := by
  have mid : ∀ b : Bool, ((xs ((x5 + (1 : Int32))).toNatClampNeg) = 0 ↔ b = false) → wb_law_1367 xs L L28 x5 (bI b)  u v o dd := fun b hb => by
    unfold wb_law_1367
    refine L_longest hC (by omega) (fun V' W' u' o' hW' c' ho => ⟨h 1 (by decide),  fun z => ?_, fun z => ?_⟩)
    · have e := hb.mp z
      subst e
      unfold wb_law_1388 wb_law_1421 wb_law_2328
      exact M_longest (b := false) hI (fun v' r i' h17 hr => law_cmp rfl ho h17 hr lt_longest (fun x6 e => by rw [e]; exact hn V' W' u' v' _ _ _ hW' c' i'))
    · have e : b = true := by
        cases b with
        | true => rfl
        | false => exact absurd (hb.mpr rfl) z
      subst e
      unfold wb_law_1388 wb_law_1421 wb_law_2328
      exact M_longest (b := true) hI (fun v' r i' h17 hr => law_cmp rfl ho h17 hr lt_longest (fun x6 e => by rw [e]; exact hn V' W' u' v' _ _ _ hW' c' i'))
  unfold wb_law_1352
  exact ⟨h 1 (by decide),  fun z => mid false ⟨fun _ => rfl, fun _ => z⟩, fun z => mid true ⟨fun z2 => absurd z2 z, fun z2 => (by cases z2)⟩⟩
theorem q_wonIn {xs : Nat → Int32} {L : Nat} {L28 : Int32 → MU → MU → (Nat → Int64) → (Nat → UInt64) → Prop} {x5 : Int32} {u v : MU} {o : Nat → Int64} {dd : Nat → UInt64} {V : Nat → Cfg} {W : Nat} {A : Ab} (hC : CI V W u A none 0) (hI : RI v A) (hW : W + 40 < 2 ^ 20) (hn : NX L28 x5 W) (h : ∀ j, j = 1 ∨ j = 2 ∨ j = 3 ∨ j = 4 → vp_in (x5 + j) L) : wb_law_1424 xs L L28 x5 u v o dd := by
  unfold wb_law_1424 wb_law_1477 wb_law_2328
  exact ⟨h 1 (by decide), L_wonIn hC (by omega) (fun V' W' u' o' hW' c' ho => ⟨h 1 (by decide), M_wonIn hI (fun v' r i' h17 hr => law_cmp rfl ho h17 hr lt_wonIn (fun x6 e => by rw [e]; exact hn V' W' u' v' _ _ _ hW' c' i'))⟩)⟩
theorem q_wouldChange {xs : Nat → Int32} {L : Nat} {L28 : Int32 → MU → MU → (Nat → Int64) → (Nat → UInt64) → Prop} {x5 : Int32} {u v : MU} {o : Nat → Int64} {dd : Nat → UInt64} {V : Nat → Cfg} {W : Nat} {A : Ab} (hC : CI V W u A none 0) (hI : RI v A) (hW : W + 40 < 2 ^ 20) (hn : NX L28 x5 W) (h : ∀ j, j = 1 ∨ j = 2 ∨ j = 3 ∨ j = 4 → vp_in (x5 + j) L) : wb_law_1480 xs L L28 x5 u v o dd := by
  unfold wb_law_1480 wb_law_1545 wb_law_2328
  exact ⟨h 1 (by decide), h 2 (by decide), L_wouldChange hC (by omega) (fun V' W' u' o' hW' c' ho => ⟨h 1 (by decide), h 2 (by decide), M_wouldChange hI (fun v' r i' h17 hr => law_cmp rfl ho h17 hr lt_wouldChange (fun x6 e => by rw [e]; exact hn V' W' u' v' _ _ _ hW' c' i'))⟩)⟩
theorem q_bestBurrow {xs : Nat → Int32} {L : Nat} {L28 : Int32 → MU → MU → (Nat → Int64) → (Nat → UInt64) → Prop} {x5 : Int32} {u v : MU} {o : Nat → Int64} {dd : Nat → UInt64} {V : Nat → Cfg} {W : Nat} {A : Ab} (hC : CI V W u A none 0) (hI : RI v A) (hW : W + 40 < 2 ^ 20) (hn : NX L28 x5 W) (h : ∀ j, j = 1 ∨ j = 2 ∨ j = 3 ∨ j = 4 → vp_in (x5 + j) L) : wb_law_1548 xs L L28 x5 u v o dd := by
  unfold wb_law_1548 wb_law_1601 wb_law_2328
  exact ⟨h 1 (by decide), L_bestBurrow hC (by omega) (fun V' W' u' o' hW' c' ho => ⟨h 1 (by decide), M_bestBurrow hI (fun v' r i' h17 hr => law_cmp rfl ho h17 hr lt_bestBurrow (fun x6 e => by rw [e]; exact hn V' W' u' v' _ _ _ hW' c' i'))⟩)⟩
theorem q_burrowOf {xs : Nat → Int32} {L : Nat} {L28 : Int32 → MU → MU → (Nat → Int64) → (Nat → UInt64) → Prop} {x5 : Int32} {u v : MU} {o : Nat → Int64} {dd : Nat → UInt64} {V : Nat → Cfg} {W : Nat} {A : Ab} (hC : CI V W u A none 0) (hI : RI v A) (hW : W + 40 < 2 ^ 20) (hn : NX L28 x5 W) (h : ∀ j, j = 1 ∨ j = 2 ∨ j = 3 ∨ j = 4 → vp_in (x5 + j) L) : wb_law_1604 xs L L28 x5 u v o dd := by
  unfold wb_law_1604 wb_law_1669 wb_law_2328
  exact ⟨h 1 (by decide), h 2 (by decide), L_burrowOf hC (by omega) (fun V' W' u' o' hW' c' ho => ⟨h 1 (by decide), h 2 (by decide), M_burrowOf hI (fun v' r i' h17 hr => law_cmp rfl ho h17 hr lt_burrowOf (fun x6 e => by rw [e]; exact hn V' W' u' v' _ _ _ hW' c' i'))⟩)⟩
theorem q_pathOf {xs : Nat → Int32} {L : Nat} {L28 : Int32 → MU → MU → (Nat → Int64) → (Nat → UInt64) → Prop} {x5 : Int32} {u v : MU} {o : Nat → Int64} {dd : Nat → UInt64} {V : Nat → Cfg} {W : Nat} {A : Ab} (hC : CI V W u A none 0) (hI : RI v A) (hW : W + 40 < 2 ^ 20) (hn : NX L28 x5 W) (h : ∀ j, j = 1 ∨ j = 2 ∨ j = 3 ∨ j = 4 → vp_in (x5 + j) L) : wb_law_1672 xs L L28 x5 u v o dd := by
  have mid : ∀ b : Bool, ((xs ((x5 + (2 : Int32))).toNatClampNeg) = 0 ↔ b = false) → wb_law_1693 xs L L28 x5 (bI b) (xs ((x5 + (1 : Int32))).toNatClampNeg) u v o dd := fun b hb => by
    unfold wb_law_1693
    refine L_pathOf hC (fun V' W' u' o' hW' c' ho => ⟨h 1 (by decide), h 2 (by decide),  fun z => ?_, fun z => ?_⟩)
    · have e := hb.mp z
      subst e
      unfold wb_law_1720 wb_law_1753 wb_law_2328
      exact M_pathOf (b := false) hI (fun v' r i' h17 hr => law_cmp rfl ho h17 hr lt_pathOf (fun x6 e => by rw [e]; exact hn V' W' u' v' _ _ _ hW' c' i'))
    · have e : b = true := by
        cases b with
        | true => rfl
        | false => exact absurd (hb.mpr rfl) z
      subst e
      unfold wb_law_1720 wb_law_1753 wb_law_2328
      exact M_pathOf (b := true) hI (fun v' r i' h17 hr => law_cmp rfl ho h17 hr lt_pathOf (fun x6 e => by rw [e]; exact hn V' W' u' v' _ _ _ hW' c' i'))
  unfold wb_law_1672
  exact ⟨h 1 (by decide), h 2 (by decide),  fun z => mid false ⟨fun _ => rfl, fun _ => z⟩, fun z => mid true ⟨fun z2 => absurd z2 z, fun z2 => (by cases z2)⟩⟩
theorem q_now {xs : Nat → Int32} {L : Nat} {L28 : Int32 → MU → MU → (Nat → Int64) → (Nat → UInt64) → Prop} {x5 : Int32} {u v : MU} {o : Nat → Int64} {dd : Nat → UInt64} {V : Nat → Cfg} {W : Nat} {A : Ab} (hC : CI V W u A none 0) (hI : RI v A) (hW : W + 40 < 2 ^ 20) (hn : NX L28 x5 W) (h : ∀ j, j = 1 ∨ j = 2 ∨ j = 3 ∨ j = 4 → vp_in (x5 + j) L) : wb_law_1756 xs L L28 x5 u v o dd := by
  unfold wb_law_1756 wb_law_1797 wb_law_2328
  exact L_now hC (fun V' W' u' o' hW' c' ho => M_now hI (fun v' r i' h17 hr => law_cmp rfl ho h17 hr lt_now (fun x6 e => by rw [e]; exact hn V' W' u' v' _ _ _ hW' c' i')))
theorem q_append {xs : Nat → Int32} {L : Nat} {L28 : Int32 → MU → MU → (Nat → Int64) → (Nat → UInt64) → Prop} {x5 : Int32} {u v : MU} {o : Nat → Int64} {dd : Nat → UInt64} {V : Nat → Cfg} {W : Nat} {A : Ab} (hC : CI V W u A none 0) (hI : RI v A) (hW : W + 40 < 2 ^ 20) (hn : NX L28 x5 W) (h : ∀ j, j = 1 ∨ j = 2 ∨ j = 3 ∨ j = 4 → vp_in (x5 + j) L) : wb_law_1800 xs L L28 x5 u v o dd := by
  unfold wb_law_1800 wb_law_1855 wb_law_2328
  exact ⟨h 1 (by decide), L_append (chI_of _) hC (fun V' W' u' o' hW' c' ho => ⟨h 1 (by decide), M_append (chI_of _) hI (fun v' r i' h17 hr => law_cmp rfl ho h17 hr lt_append (fun x6 e => by rw [e]; exact hn V' W' u' v' _ _ _ hW' c' i'))⟩)⟩
theorem q_commands {xs : Nat → Int32} {L : Nat} {L28 : Int32 → MU → MU → (Nat → Int64) → (Nat → UInt64) → Prop} {x5 : Int32} {u v : MU} {o : Nat → Int64} {dd : Nat → UInt64} {V : Nat → Cfg} {W : Nat} {A : Ab} (hC : CI V W u A none 0) (hI : RI v A) (hW : W + 40 < 2 ^ 20) (hn : NX L28 x5 W) (h : ∀ j, j = 1 ∨ j = 2 ∨ j = 3 ∨ j = 4 → vp_in (x5 + j) L) : wb_law_1858 xs L L28 x5 u v o dd := by
  unfold wb_law_1858 wb_law_1899 wb_law_2328
  exact L_commands hC hW (fun V' W' u' o' hW' c' ho => M_commands hI (fun v' r i' h17 hr => law_cmp rfl ho h17 hr lt_commands (fun x6 e => by rw [e]; exact hn V' W' u' v' _ _ _ hW' c' i')))
theorem q_reason {xs : Nat → Int32} {L : Nat} {L28 : Int32 → MU → MU → (Nat → Int64) → (Nat → UInt64) → Prop} {x5 : Int32} {u v : MU} {o : Nat → Int64} {dd : Nat → UInt64} {V : Nat → Cfg} {W : Nat} {A : Ab} (hC : CI V W u A none 0) (hI : RI v A) (hW : W + 40 < 2 ^ 20) (hn : NX L28 x5 W) (h : ∀ j, j = 1 ∨ j = 2 ∨ j = 3 ∨ j = 4 → vp_in (x5 + j) L) : wb_law_1915 xs L L28 x5 u v o dd := by
  unfold wb_law_1915 wb_law_1968 wb_law_2328
  exact ⟨h 1 (by decide), L_reason hC (fun V' W' u' o' hW' c' ho => ⟨h 1 (by decide), M_reason hI (fun v' r i' h17 hr => law_cmp rfl ho h17 hr lt_reason (fun x6 e => by rw [e]; exact hn V' W' u' v' _ _ _ hW' c' i'))⟩)⟩
theorem q_character {xs : Nat → Int32} {L : Nat} {L28 : Int32 → MU → MU → (Nat → Int64) → (Nat → UInt64) → Prop} {x5 : Int32} {u v : MU} {o : Nat → Int64} {dd : Nat → UInt64} {V : Nat → Cfg} {W : Nat} {A : Ab} (hC : CI V W u A none 0) (hI : RI v A) (hW : W + 40 < 2 ^ 20) (hn : NX L28 x5 W) (h : ∀ j, j = 1 ∨ j = 2 ∨ j = 3 ∨ j = 4 → vp_in (x5 + j) L) : wb_law_1984 xs L L28 x5 u v o dd := by
  unfold wb_law_1984 wb_law_2037 wb_law_2328
  exact ⟨h 1 (by decide), L_character hC (fun V' W' u' o' hW' c' ho => ⟨h 1 (by decide), M_character hI (fun v' r i' h17 hr => law_cmp rfl ho h17 hr lt_character (fun x6 e => by rw [e]; exact hn V' W' u' v' _ _ _ hW' c' i'))⟩)⟩
theorem q_account {xs : Nat → Int32} {L : Nat} {L28 : Int32 → MU → MU → (Nat → Int64) → (Nat → UInt64) → Prop} {x5 : Int32} {u v : MU} {o : Nat → Int64} {dd : Nat → UInt64} {V : Nat → Cfg} {W : Nat} {A : Ab} (hC : CI V W u A none 0) (hI : RI v A) (hW : W + 40 < 2 ^ 20) (hn : NX L28 x5 W) (h : ∀ j, j = 1 ∨ j = 2 ∨ j = 3 ∨ j = 4 → vp_in (x5 + j) L) : wb_law_2171 xs L L28 x5 u v o dd := by
  unfold wb_law_2171 wb_law_2224 wb_law_2328
  exact ⟨h 1 (by decide), L_account hC (by omega) (fun V' W' u' o' hW' c' ho => ⟨h 1 (by decide), M_account hI (fun v' r i' h17 hr => law_cmp rfl ho h17 hr lt_account (fun x6 e => by rw [e]; exact hn V' W' u' v' _ _ _ hW' c' i'))⟩)⟩
theorem q_undo {xs : Nat → Int32} {L : Nat} {L28 : Int32 → MU → MU → (Nat → Int64) → (Nat → UInt64) → Prop} {x5 : Int32} {u v : MU} {o : Nat → Int64} {dd : Nat → UInt64} {V : Nat → Cfg} {W : Nat} {A : Ab} (hC : CI V W u A none 0) (hI : RI v A) (hW : W + 40 < 2 ^ 20) (hn : NX L28 x5 W) (h : ∀ j, j = 1 ∨ j = 2 ∨ j = 3 ∨ j = 4 → vp_in (x5 + j) L) : wb_law_2227 xs L L28 x5 u v o dd := by
  unfold wb_law_2227 wb_law_2268 wb_law_2328
  exact L_undo hC (fun V' W' u' o' hW' c' ho => M_undo hI (fun v' r i' h17 hr => law_cmp rfl ho h17 hr lt_undo (fun x6 e => by rw [e]; exact hn V' W' u' v' _ _ _ hW' c' i')))
theorem q_restore {xs : Nat → Int32} {L : Nat} {L28 : Int32 → MU → MU → (Nat → Int64) → (Nat → UInt64) → Prop} {x5 : Int32} {u v : MU} {o : Nat → Int64} {dd : Nat → UInt64} {V : Nat → Cfg} {W : Nat} {A : Ab} (hC : CI V W u A none 0) (hI : RI v A) (hW : W + 40 < 2 ^ 20) (hn : NX L28 x5 W) (h : ∀ j, j = 1 ∨ j = 2 ∨ j = 3 ∨ j = 4 → vp_in (x5 + j) L) : wb_law_2284 xs L L28 x5 u v o dd := by
  unfold wb_law_2284 wb_law_2325 wb_law_2328
  exact L_restore hC (fun V' W' u' o' hW' c' ho => M_restore hI (fun v' r i' h17 hr => law_cmp rfl ho h17 hr lt_restore (fun x6 e => by rw [e]; exact hn V' W' u' v' _ _ _ hW' c' i')))
theorem q_fault {xs : Nat → Int32} {L : Nat} {L28 : Int32 → MU → MU → (Nat → Int64) → (Nat → UInt64) → Prop} {x5 : Int32} {u v : MU} {o : Nat → Int64} {dd : Nat → UInt64} {V : Nat → Cfg} {W : Nat} {A : Ab} (hC : CI V W u A none 0) (hI : RI v A) (hn : NX L28 x5 W) : wb_law_1902 xs L L28 x5 u v o dd := by
  unfold wb_law_1902 wb_law_2328 w_X9_faultPosition w_X10_faultPosition
  intro a1 e1
  obtain ⟨i1, h17⟩ := RI_0 hI e1
  have e : a1 117 13 = u 0 13 := by
    rw [show a1 117 13 = A.fault from i1.2.2.1.1]
    exact hC.M.1.symm
  rw [e]
  exact ⟨fun _ x6 h => by rw [h]; exact hn V W u a1 A o dd (by omega) hC i1, fun z => z rfl⟩
theorem q_line {xs : Nat → Int32} {L : Nat} {L28 : Int32 → MU → MU → (Nat → Int64) → (Nat → UInt64) → Prop} {x5 : Int32} {u v : MU} {o : Nat → Int64} {dd : Nat → UInt64} {V : Nat → Cfg} {W : Nat} {A : Ab} (hC : CI V W u A none 0) (hI : RI v A) (hn : NX L28 x5 W) : wb_law_1971 xs L L28 x5 u v o dd := by
  unfold wb_law_1971 wb_law_2328
  exact s_line hC (fun u' c' => r_line hI (fun v' i' h17 => ⟨fun _ x6 h => by rw [h]; exact hn V W u' v' _ o dd (by omega) c' i', fun z => z rfl⟩))
theorem q_save {xs : Nat → Int32} {L : Nat} {L28 : Int32 → MU → MU → (Nat → Int64) → (Nat → UInt64) → Prop} {x5 : Int32} {u v : MU} {o : Nat → Int64} {dd : Nat → UInt64} {V : Nat → Cfg} {W : Nat} {A : Ab} (hC : CI V W u A none 0) (hI : RI v A) (hn : NX L28 x5 W) : wb_law_2271 xs L L28 x5 u v o dd := by
  unfold wb_law_2271 wb_law_2328
  exact C_save hC (fun u' c' => M_save hI (fun v' i' => ⟨fun _ x6 h => by rw [h]; exact hn V W u' v' _ o dd (by omega) c' i', fun z => z rfl⟩))
theorem q_mean {xs : Nat → Int32} {L : Nat} {L28 : Int32 → MU → MU → (Nat → Int64) → (Nat → UInt64) → Prop} {x5 : Int32} {u v : MU} {o : Nat → Int64} {dd : Nat → UInt64} {V : Nat → Cfg} {W : Nat} {A : Ab} (hC : CI V W u A none 0) (hI : RI v A) (hW : W + 40 < 2 ^ 20) (hn : NX L28 x5 W) : wb_law_2040 xs L L28 x5 u v o dd := by
  unfold wb_law_2040 wb_law_2102 wb_law_2100 wb_law_2328
  refine L_meanMoves hC (by omega) (fun V' W' u' o' hW' c' ho => M_meanMoves hI (fun v' r i' h17 hr => ?_))
  have P : ∀ x6, x6 = x5 + (5 : Int32) → L28 x6 u' v' o o' := fun x6 e => by rw [e]; exact hn V' W' u' v' _ _ _ hW' c' i'
  unfold w_X10_thrown
  rw [h17]
  refine ⟨fun _ => ⟨fun _ => P, fun z => ?_⟩, fun z => z rfl⟩
  have lt := lt_mean (A := A)
  have h0 : (a_mean A).1 = 0 := (nI_eq (b := 0) (by omega) (by decide)).mp z
  have e0 : o' ((0 : Int32)).toNatClampNeg = r := (ho h0).trans (hr h0).symm
  rw [e0]
  exact ⟨fun _ => P, fun z1 => ⟨fun z2 => z1 z2, fun z2 => ⟨fun _ => P, fun z3 => z2 z3⟩⟩⟩
theorem order_self {d : FP.Core.Datum} (h : d ≠ .nan) : FP.Core.order d d = some .eq := by
  have c : ∀ i : Int, compare i i = Ordering.eq := fun i => by
    show compareOfLessAndEq i i = _
    unfold compareOfLessAndEq
    rw [if_neg (Int.lt_irrefl i), if_pos rfl]
  cases d with
  | nan => exact absurd rfl h
  | inf s => show some (compare _ _) = _; rw [c]
  | fin s c' q => show some (compare _ _) = _; rw [c]
theorem dcmp_self {x : UInt64} (h : vf_n64 x) : Op.cmpValue (FP.dcmp x x) .l = 0 := by
  have e : FP.dcmp x x = some .eq := by
    refine order_self (dec64 ?_)
    unfold vf_n64 at h
    rw [UInt64.le_iff_toNat_le, UInt64.toNat_and, show (0x7fffffffffffffff : UInt64).toNat = 2 ^ 63 - 1 from rfl, Nat.and_two_pow_sub_one_eq_mod] at h
    exact h
  rw [e]; rfl
theorem q_drawn {xs : Nat → Int32} {L : Nat} {L28 : Int32 → MU → MU → (Nat → Int64) → (Nat → UInt64) → Prop} {x5 : Int32} {u v : MU} {o : Nat → Int64} {dd : Nat → UInt64} {V : Nat → Cfg} {W : Nat} {A : Ab} (hC : CI V W u A none 0) (hI : RI v A) (hW : W + 40 < 2 ^ 20) (hn : NX L28 x5 W) : wb_law_2105 xs L L28 x5 u v o dd := by
  unfold wb_law_2105 wb_law_2168 wb_law_2166 wb_law_2328
  refine L_drawn hC (by omega) (fun V' W' u' o' hW' c' ho => M_drawn hI (fun v' r i' h17 hr => ?_))
  have P : ∀ x6, x6 = x5 + (5 : Int32) → L28 x6 u' v' o o' := fun x6 e => by rw [e]; exact hn V' W' u' v' _ _ _ hW' c' i'
  unfold w_X10_thrown
  rw [h17]
  refine ⟨fun _ => ⟨fun _ => P, fun z => ?_⟩, fun z => z rfl⟩
  have lt := lt_drawn (A := A)
  have h0 : (a_drawn A).1 = 0 := (nI_eq (b := 0) (by omega) (by decide)).mp z
  have e0 : o' ((0 : Int32)).toNatClampNeg = FP.f2d r := (ho h0).trans (hr h0).symm
  have hv : vf_n64 (FP.f2d r) := by
    rw [hr h0]
    have hl := lp_len hI.c
    unfold a_drawn at h0 ⊢
    by_cases hz : (lp A.S.cfg).length = 0
    · rw [if_pos hz] at h0; cases h0
    · rw [if_neg hz]
      exact (fdiv_n (x := nI ((lp A.S.cfg).countP (pIn A.S.cfg (-1)))) (n := (lp A.S.cfg).length) (by omega) (by omega)).2
  rw [e0]
  exact ⟨hv, fun _ => P, fun z1 => absurd (dcmp_self hv) z1⟩
theorem small_L : ∀ L, L < 5 → nI L - 5 < 0 := by decide +kernel
theorem wh_ok {xs : Nat → Int32} {L : Nat} {L28 : Int32 → MU → MU → (Nat → Int64) → (Nat → UInt64) → Prop} {n : Nat} (hL : L ≤ 2560) (hn31 : n ≤ 3000) {u v : MU} {o : Nat → Int64} {dd : Nat → UInt64} {V : Nat → Cfg} {W : Nat} {A : Ab} (hC : CI V W u A none 0) (hI : RI v A) (hW : W + 40 < 2 ^ 20) (hn : n + 5 ≤ L → NX L28 (nI n) W) : wh_law xs L L28 (nI n) u v o dd := by
  unfold wh_law
  refine ⟨fun _ => trivial, fun z => ?_⟩
  have hn5 : n + 5 ≤ L := by
    rcases Nat.lt_or_ge L (n + 5) with q | q
    · exfalso
      refine z ?_
      show nI L - 5 < nI n
      rcases Nat.lt_or_ge L 5 with q2 | q2
      · exact fa_trans (small_L L q2) (nI_pos' (by omega))
      · rw [show (5 : Int32) = nI 5 from rfl, pk_sub q2]
        exact nI_lt (by omega) (by omega)
    · exact q
  have hn := hn hn5
  have h : ∀ j, j = 1 ∨ j = 2 ∨ j = 3 ∨ j = 4 → vp_in (nI n + j) L := fun j hj => by
    rcases hj with z | z | z | z <;> rw [z]
    · rw [nI_1]; exact vp_in_nI (by omega) (by omega)
    · rw [show (2 : Int32) = nI 2 from rfl, nI_add]; exact vp_in_nI (by omega) (by omega)
    · rw [show (3 : Int32) = nI 3 from rfl, nI_add]; exact vp_in_nI (by omega) (by omega)
    · rw [show (4 : Int32) = nI 4 from rfl, nI_add]; exact vp_in_nI (by omega) (by omega)
  have last : wb_law_2328 xs L L28 (nI n) u v o dd := fun x6 e => by rw [e]; exact hn V W u v A o dd (by omega) hC hI
  refine ⟨vp_in_nI (by omega) (by omega), fun w _ => ?_⟩
  exact ⟨fun _ => q_dig hC hI hW hn h, fun _ => ⟨fun _ => q_tread hC hI hW hn h, fun _ => ⟨fun _ => q_grow hC hI hW hn h, fun _ => ⟨fun _ => q_trap hC hI hW hn h, fun _ => ⟨fun _ => q_flock hC hI hW hn h, fun _ => ⟨fun _ => q_begin hC hI hW hn h, fun _ => ⟨fun _ => q_move hC hI hW hn h, fun _ => ⟨fun _ => q_play hC hI hW hn h, fun _ => ⟨fun _ => q_back hC hI hW hn h, fun _ => ⟨fun _ => q_position hC hI hW hn h, fun _ => ⟨fun _ => q_positionOf hC hI hW hn h, fun _ => ⟨fun _ => q_outcomeAgain hC hI hW hn h, fun _ => ⟨fun _ => q_moveOf hC hI hW hn h, fun _ => ⟨fun _ => q_best hC hI hW hn h, fun _ => ⟨fun _ => q_after hC hI hW hn h, fun _ => ⟨fun _ => q_ends hC hI hW hn h, fun _ => ⟨fun _ => q_count hC hI hW hn h, fun _ => ⟨fun _ => q_longest hC hI hW hn h, fun _ => ⟨fun _ => q_wonIn hC hI hW hn h, fun _ => ⟨fun _ => q_wouldChange hC hI hW hn h, fun _ => ⟨fun _ => q_bestBurrow hC hI hW hn h, fun _ => ⟨fun _ => q_burrowOf hC hI hW hn h, fun _ => ⟨fun _ => q_pathOf hC hI hW hn h, fun _ => ⟨fun _ => q_now hC hI hW hn h, fun _ => ⟨fun _ => q_append hC hI hW hn h, fun _ => ⟨fun _ => q_commands hC hI hW hn h, fun _ => ⟨fun _ => q_fault hC hI hn, fun _ => ⟨fun _ => q_reason hC hI hW hn h, fun _ => ⟨fun _ => q_line hC hI hn, fun _ => ⟨fun _ => q_character hC hI hW hn h, fun _ => ⟨fun _ => q_mean hC hI hW hn, fun _ => ⟨fun _ => q_drawn hC hI hW hn, fun _ => ⟨fun _ => q_account hC hI hW hn h, fun _ => ⟨fun _ => q_undo hC hI hW hn h, fun _ => ⟨fun _ => q_save hC hI hn, fun _ => ⟨fun _ => q_restore hC hI hW hn h, fun _ => (last)⟩⟩⟩⟩⟩⟩⟩⟩⟩⟩⟩⟩⟩⟩⟩⟩⟩⟩⟩⟩⟩⟩⟩⟩⟩⟩⟩⟩⟩⟩⟩⟩⟩⟩⟩⟩
theorem law_all {xs : Nat → Int32} {L : Nat} (hL : L ≤ 2560) : ∀ (n i : Nat) (V : Nat → Cfg) (W : Nat) (u v : MU) (o : Nat → Int64) (dd : Nat → UInt64) (A : Ab), n + i = 512 → W ≤ 40 * i → CI V W u A none 0 → RI v A → wl_law xs L (n + 1) (nI (5 * i)) u v o dd := by
  intro n
  induction n with
  | zero =>
    intro i V W u v o dd A hi hW hC hI
    rw [wl_law]
    exact wh_ok hL (by omega) hC hI (by omega) (fun h => by omega)
  | succ n ih =>
    intro i V W u v o dd A hi hW hC hI
    rw [wl_law]
    refine wh_ok hL (by omega) hC hI (by omega) (fun h V' W' u' v' A' o' dd' hW' c' i' => ?_)
    rw [show (5 : Int32) = nI 5 from rfl, nI_add, show 5 * i + 5 = 5 * (i + 1) by omega]
    exact ih (i + 1) V' W' u' v' o' dd' A' (by omega) (by omega) c' i'
def A0 : Ab := mkA (mkS 0 0 1 [] none 0) none [] [] [] none (-1)
theorem S0_ok : StOk A0.S := ⟨by decide, Or.inl rfl, by decide, ⟨by decide, fun q h => absurd h List.not_mem_nil, List.Pairwise.nil⟩, fun h p e => by cases e⟩
theorem A0_ok : AbOk A0 := ⟨S0_ok, fun S h => (by have h : (none : Option St) = some S := h; cases h), (by decide), fun S h => absurd h List.not_mem_nil, (by decide), fun x h => absurd h List.not_mem_nil, (by decide), fun x h => absurd h List.not_mem_nil, fun w d i h => (by have h : (none : Option (Int32 × (Int32 × Int32))) = some (w, (d, i)) := h; cases h)⟩
theorem RI_start : RI v0 A0 := by
  refine ⟨A0_ok, ⟨rfl, rfl, rfl, rfl, fun i q h => ?_, rfl, ⟨rfl, rfl⟩⟩, ⟨rfl, rfl, rfl, fun j S h => ?_, rfl, fun i x h => ?_, rfl, fun i x h => ?_, rfl⟩, Or.inl rfl⟩
  · have h : ([] : List (Nat × Nat))[i]? = some q := h
    simp at h
  · have h : ([] : List St)[j]? = some S := h
    simp at h
  · have h : ([] : List Int32)[i]? = some x := h
    simp at h
  · have h : ([] : List Int32)[i]? = some x := h
    simp at h
theorem near0 : ∀ b, b < 8 → u0 5 b = nI (A0.S.cfg.near b) := by decide +kernel
theorem CI_start : CI (fun _ => A0.S.cfg) 0 u0 A0 none 0 := by
  refine ⟨A0_ok, by decide +kernel, by decide +kernel, ⟨⟨by decide +kernel, by decide +kernel, by decide +kernel, near0⟩, by decide +kernel, fun i q h => ?_, by decide +kernel, ?_⟩, ⟨0, Nat.le_refl _, by decide +kernel, rfl⟩, by decide +kernel, ?_, ⟨by decide +kernel, 0, by decide, by decide +kernel, fun j S h => ?_⟩, trivial, Or.inl (by decide +kernel), Or.inl (by decide +kernel), Or.inl (by decide +kernel), ⟨by decide +kernel, fun i x h => ?_⟩, ⟨by decide +kernel, fun i x h => ?_⟩, ?_⟩
  · have h : ([] : List (Nat × Nat))[i]? = some q := h
    simp at h
  · show u0 6 0 = 0; decide +kernel
  · show u0 0 3 = 0; decide +kernel
  · have h : ([] : List St)[j]? = some S := h
    simp at h
  · have h : ([] : List Int32)[i]? = some x := h
    simp at h
  · have h : ([] : List Int32)[i]? = some x := h
    simp at h
  · show u0 116 0 = 0; decide +kernel
/-- THE PURE STATEMENT -/
theorem pure_ok : zPure := fun L xs hL => ⟨513, by decide, law_all hL 512 0 (fun _ => A0.S.cfg) 0 u0 v0 o0 d0 A0 rfl (Nat.zero_le _) CI_start RI_start⟩
