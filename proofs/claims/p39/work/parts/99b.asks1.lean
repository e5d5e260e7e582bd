/-! QUERIES: the answer out of the state alone; the rest stays -/
noncomputable def A0 (S : St) : Ab := mkA S none [] [] (lineT S.game) none 0
/-- a query's continuation: the value v, the same contents -/
def RQ (W : Nat) (A : Ab) (v : Int32) (Q : Int32 → MU → Prop) : Prop := ∀ V' W' u', W' ≤ W + 40 → CI V' W' u' A none 0 → Q v u'
theorem RQ.of {W : Nat} {A : Ab} {v : Int32} {k : Ans} {Q : Int32 → MU → Prop} (h : RQ W A v Q) (e1 : rv k = v) (e2 : k.2.2 = A) : RPost W k Q := fun V' W' u' w c => by
  rw [e1]
  rw [e2] at c
  exact h V' W' u' w c
theorem e_position {A : Ab} {S : St} (hS : A.S = S) {x y z : Int32} {b : Bool} : rv (a_position A x y z b) = rv (a_position (A0 S) x y z b) ∧ (a_position A x y z b).2.2 = A := by
  subst hS
  unfold a_position
  simp only [show (A0 A.S).S = A.S from rfl]
  (repeat' split) <;> exact ⟨rfl, rfl⟩
theorem R'_position {V : Nat → Cfg} {W : Nat} {u : MU} {A : Ab} {S : St} {x y z : Int32} {b : Bool} {Q : Int32 → MU → Prop} (hC : CI V W u A none 0) (hS : A.S = S) (hW : W + 40 < 2 ^ 20) (hq : RQ W A (rv (a_position (A0 S) x y z b)) Q) : w_R_position x y z (bI b) u Q := R_position hC (hq.of (e_position hS ).1 (e_position hS ).2)
theorem e_positionOf {A : Ab} {S : St} (hS : A.S = S) {x y : Int32} : rv (a_positionOf A x y) = rv (a_positionOf (A0 S) x y) ∧ (a_positionOf A x y).2.2 = A := by
  subst hS
  unfold a_positionOf
  simp only [show (A0 A.S).S = A.S from rfl]
  (repeat' split) <;> exact ⟨rfl, rfl⟩
theorem R'_positionOf {V : Nat → Cfg} {W : Nat} {u : MU} {A : Ab} {S : St} {x y : Int32} {Q : Int32 → MU → Prop} (hC : CI V W u A none 0) (hS : A.S = S) (hW : W + 40 < 2 ^ 20) (hq : RQ W A (rv (a_positionOf (A0 S) x y)) Q) : w_R_positionOf x y u Q := R_positionOf hC hW (hq.of (e_positionOf hS ).1 (e_positionOf hS ).2)
theorem e_outcomeAgain {A : Ab} {S : St} (hS : A.S = S) {x : Int32} : rv (a_outcomeAgain A x) = rv (a_outcomeAgain (A0 S) x) ∧ (a_outcomeAgain A x).2.2 = A := by
  subst hS
  unfold a_outcomeAgain
  simp only [show (A0 A.S).S = A.S from rfl]
  (repeat' split) <;> exact ⟨rfl, rfl⟩
theorem R'_outcomeAgain {V : Nat → Cfg} {W : Nat} {u : MU} {A : Ab} {S : St} {x : Int32} {Q : Int32 → MU → Prop} (hC : CI V W u A none 0) (hS : A.S = S) (hW : W + 40 < 2 ^ 20) (hq : RQ W A (rv (a_outcomeAgain (A0 S) x)) Q) : w_R_outcomeAgain x u Q := R_outcomeAgain hC hW (hq.of (e_outcomeAgain hS ).1 (e_outcomeAgain hS ).2)
theorem e_best {A : Ab} {S : St} (hS : A.S = S) {x : Int32} : rv (a_best A x) = rv (a_best (A0 S) x) ∧ (a_best A x).2.2 = A := by
  subst hS
  unfold a_best
  simp only [show (A0 A.S).S = A.S from rfl]
  (repeat' split) <;> exact ⟨rfl, rfl⟩
theorem R'_best {V : Nat → Cfg} {W : Nat} {u : MU} {A : Ab} {S : St} {x : Int32} {Q : Int32 → MU → Prop} (hC : CI V W u A none 0) (hS : A.S = S) (hW : W + 40 < 2 ^ 20) (hq : RQ W A (rv (a_best (A0 S) x)) Q) : w_R_best x u Q := R_best hC hW (hq.of (e_best hS ).1 (e_best hS ).2)
theorem e_after {A : Ab} {S : St} (hS : A.S = S) {x y z : Int32} : rv (a_after A x y z) = rv (a_after (A0 S) x y z) ∧ (a_after A x y z).2.2 = A := by
  subst hS
  unfold a_after
  simp only [show (A0 A.S).S = A.S from rfl]
  (repeat' split) <;> exact ⟨rfl, rfl⟩
theorem R'_after {V : Nat → Cfg} {W : Nat} {u : MU} {A : Ab} {S : St} {x y z : Int32} {Q : Int32 → MU → Prop} (hC : CI V W u A none 0) (hS : A.S = S) (hW : W + 40 < 2 ^ 20) (hq : RQ W A (rv (a_after (A0 S) x y z)) Q) : w_R_after x y z u Q := R_after hC (hq.of (e_after hS ).1 (e_after hS ).2)
theorem e_moveOf {A : Ab} {S : St} (hS : A.S = S) {x y : Int32} {b : Bool} : rv (a_moveOf A x y b) = rv (a_moveOf (A0 S) x y b) ∧ (a_moveOf A x y b).2.2 = A := by
  subst hS
  unfold a_moveOf
  simp only [show (A0 A.S).S = A.S from rfl]
  (repeat' split) <;> exact ⟨rfl, rfl⟩
theorem R'_moveOf {V : Nat → Cfg} {W : Nat} {u : MU} {A : Ab} {S : St} {x y : Int32} {b : Bool} {Q : Int32 → MU → Prop} (hC : CI V W u A none 0) (hS : A.S = S) (hW : W + 40 < 2 ^ 20) (hq : RQ W A (rv (a_moveOf (A0 S) x y b)) Q) : w_R_moveOf x y (bI b) u Q := R_moveOf hC (hq.of (e_moveOf hS ).1 (e_moveOf hS ).2)
theorem e_ending {A : Ab} {S : St} (hS : A.S = S) {x : Int32} : rv (a_ends A x) = rv (a_ends (A0 S) x) ∧ (a_ends A x).2.2 = A := by
  subst hS
  unfold a_ends
  simp only [show (A0 A.S).S = A.S from rfl]
  (repeat' split) <;> exact ⟨rfl, rfl⟩
theorem R'_ending {V : Nat → Cfg} {W : Nat} {u : MU} {A : Ab} {S : St} {x : Int32} {Q : Int32 → MU → Prop} (hC : CI V W u A none 0) (hS : A.S = S) (hW : W + 40 < 2 ^ 20) (hq : RQ W A (rv (a_ends (A0 S) x)) Q) : w_R_ending x u Q := R_ending hC hW (hq.of (e_ending hS ).1 (e_ending hS ).2)
theorem e_count {A : Ab} {S : St} (hS : A.S = S) {x : Int32} {b : Bool} : rv (a_count A x b) = rv (a_count (A0 S) x b) ∧ (a_count A x b).2.2 = A := by
  subst hS
  unfold a_count
  simp only [show (A0 A.S).S = A.S from rfl]
  (repeat' split) <;> exact ⟨rfl, rfl⟩
theorem R'_count {V : Nat → Cfg} {W : Nat} {u : MU} {A : Ab} {S : St} {x : Int32} {b : Bool} {Q : Int32 → MU → Prop} (hC : CI V W u A none 0) (hS : A.S = S) (hW : W + 40 < 2 ^ 20) (hq : RQ W A (rv (a_count (A0 S) x b)) Q) : w_R_count x (bI b) u Q := R_count hC hW (hq.of (e_count hS ).1 (e_count hS ).2)
theorem e_longest {A : Ab} {S : St} (hS : A.S = S) {b : Bool} : rv (a_longest A b) = rv (a_longest (A0 S) b) ∧ (a_longest A b).2.2 = A := by
  subst hS
  unfold a_longest
  simp only [show (A0 A.S).S = A.S from rfl]
  (repeat' split) <;> exact ⟨rfl, rfl⟩
theorem R'_longest {V : Nat → Cfg} {W : Nat} {u : MU} {A : Ab} {S : St} {b : Bool} {Q : Int32 → MU → Prop} (hC : CI V W u A none 0) (hS : A.S = S) (hW : W + 40 < 2 ^ 20) (hq : RQ W A (rv (a_longest (A0 S) b)) Q) : w_R_longest (bI b) u Q := R_longest hC hW (hq.of (e_longest hS ).1 (e_longest hS ).2)
theorem e_wonIn {A : Ab} {S : St} (hS : A.S = S) {x : Int32} : rv (a_wonIn A x) = rv (a_wonIn (A0 S) x) ∧ (a_wonIn A x).2.2 = A := by
  subst hS
  unfold a_wonIn
  simp only [show (A0 A.S).S = A.S from rfl]
  (repeat' split) <;> exact ⟨rfl, rfl⟩
theorem R'_wonIn {V : Nat → Cfg} {W : Nat} {u : MU} {A : Ab} {S : St} {x : Int32} {Q : Int32 → MU → Prop} (hC : CI V W u A none 0) (hS : A.S = S) (hW : W + 40 < 2 ^ 20) (hq : RQ W A (rv (a_wonIn (A0 S) x)) Q) : w_R_wonIn x u Q := R_wonIn hC hW (hq.of (e_wonIn hS ).1 (e_wonIn hS ).2)
theorem e_wouldChange {A : Ab} {S : St} (hS : A.S = S) {x y : Int32} : rv (a_wouldChange A x y) = rv (a_wouldChange (A0 S) x y) ∧ (a_wouldChange A x y).2.2 = A := by
  subst hS
  unfold a_wouldChange
  simp only [show (A0 A.S).S = A.S from rfl]
  (repeat' split) <;> exact ⟨rfl, rfl⟩
theorem R'_wouldChange {V : Nat → Cfg} {W : Nat} {u : MU} {A : Ab} {S : St} {x y : Int32} {Q : Int32 → MU → Prop} (hC : CI V W u A none 0) (hS : A.S = S) (hW : W + 40 < 2 ^ 20) (hq : RQ W A (rv (a_wouldChange (A0 S) x y)) Q) : w_R_wouldChange x y u Q := R_wouldChange hC hW (hq.of (e_wouldChange hS ).1 (e_wouldChange hS ).2)
theorem e_bestBurrow {A : Ab} {S : St} (hS : A.S = S) {x : Int32} : rv (a_bestBurrow A x) = rv (a_bestBurrow (A0 S) x) ∧ (a_bestBurrow A x).2.2 = A := by
  subst hS
  unfold a_bestBurrow
  simp only [show (A0 A.S).S = A.S from rfl]
  (repeat' split) <;> exact ⟨rfl, rfl⟩
theorem R'_bestBurrow {V : Nat → Cfg} {W : Nat} {u : MU} {A : Ab} {S : St} {x : Int32} {Q : Int32 → MU → Prop} (hC : CI V W u A none 0) (hS : A.S = S) (hW : W + 40 < 2 ^ 20) (hq : RQ W A (rv (a_bestBurrow (A0 S) x)) Q) : w_R_bestBurrow x u Q := R_bestBurrow hC hW (hq.of (e_bestBurrow hS ).1 (e_bestBurrow hS ).2)
theorem e_burrowOf {A : Ab} {S : St} (hS : A.S = S) {x y : Int32} : rv (a_burrowOf A x y) = rv (a_burrowOf (A0 S) x y) ∧ (a_burrowOf A x y).2.2 = A := by
  subst hS
  unfold a_burrowOf burVal
  simp only [show (A0 A.S).S = A.S from rfl]
  (repeat' split) <;> exact ⟨rfl, rfl⟩
theorem R'_burrowOf {V : Nat → Cfg} {W : Nat} {u : MU} {A : Ab} {S : St} {x y : Int32} {Q : Int32 → MU → Prop} (hC : CI V W u A none 0) (hS : A.S = S) (hW : W + 40 < 2 ^ 20) (hq : RQ W A (rv (a_burrowOf (A0 S) x y)) Q) : w_R_burrowOf x y u Q := R_burrowOf hC hW (hq.of (e_burrowOf hS ).1 (e_burrowOf hS ).2)
theorem e_pathOf {A : Ab} {S : St} (hS : A.S = S) {x : Int32} {b : Bool} : rv (a_pathOf A x b) = rv (a_pathOf (A0 S) x b) ∧ (a_pathOf A x b).2.2 = A := by
  subst hS
  unfold a_pathOf
  simp only [show (A0 A.S).S = A.S from rfl]
  (repeat' split) <;> exact ⟨rfl, rfl⟩
theorem R'_pathOf {V : Nat → Cfg} {W : Nat} {u : MU} {A : Ab} {S : St} {x : Int32} {b : Bool} {Q : Int32 → MU → Prop} (hC : CI V W u A none 0) (hS : A.S = S) (hW : W + 40 < 2 ^ 20) (hq : RQ W A (rv (a_pathOf (A0 S) x b)) Q) : w_R_pathOf x (bI b) u Q := R_pathOf hC (hq.of (e_pathOf hS ).1 (e_pathOf hS ).2)
theorem e_now {A : Ab} {S : St} (hS : A.S = S) : rv (a_now A ) = rv (a_now (A0 S) ) ∧ (a_now A ).2.2 = A := by
  subst hS
  unfold a_now
  simp only [show (A0 A.S).S = A.S from rfl]
  (repeat' split) <;> exact ⟨rfl, rfl⟩
theorem R'_now {V : Nat → Cfg} {W : Nat} {u : MU} {A : Ab} {S : St} {Q : Int32 → MU → Prop} (hC : CI V W u A none 0) (hS : A.S = S) (hW : W + 40 < 2 ^ 20) (hq : RQ W A (rv (a_now (A0 S) )) Q) : w_R_now  u Q := R_now hC (hq.of (e_now hS ).1 (e_now hS ).2)
theorem e_account {A : Ab} {S : St} (hS : A.S = S) {x : Int32} (hx : ¬ x = 9 ∧ ¬ x = 10) : rv (a_account A x) = rv (a_account (A0 S) x) ∧ (a_account A x).2.2 = A := by
  subst hS
  unfold a_account accV
  rw [if_neg hx.1, if_neg hx.1, if_neg hx.2, if_neg hx.2]
  simp only [show (A0 A.S).S = A.S from rfl]
  (repeat' split) <;> exact ⟨rfl, rfl⟩
theorem R'_account {V : Nat → Cfg} {W : Nat} {u : MU} {A : Ab} {S : St} {x : Int32} (hx : ¬ x = 9 ∧ ¬ x = 10) {Q : Int32 → MU → Prop} (hC : CI V W u A none 0) (hS : A.S = S) (hW : W + 40 < 2 ^ 20) (hq : RQ W A (rv (a_account (A0 S) x)) Q) : w_R_account x u Q := R_account hC hW (hq.of (e_account hS hx ).1 (e_account hS hx ).2)
theorem e_character {A : Ab} {S : St} (hS : A.line = lineT S.game) {x : Int32} : rv (a_character A x) = rv (a_character (A0 S) x) ∧ (a_character A x).2.2 = A := by
  unfold a_character
  rw [hS]
  simp only [show (A0 S).line = lineT S.game from rfl]
  (repeat' split) <;> exact ⟨rfl, rfl⟩
theorem R'_character {V : Nat → Cfg} {W : Nat} {u : MU} {A : Ab} {S : St} {x : Int32} {Q : Int32 → MU → Prop} (hC : CI V W u A none 0) (hS : A.line = lineT S.game) (hq : RQ W A (rv (a_character (A0 S) x)) Q) : w_R_character x u Q := R_character hC (hq.of (e_character hS).1 (e_character hS).2)
noncomputable def qMean (S : St) : UInt64 := if (a_mean (A0 S)).1 = 0 then (a_mean (A0 S)).2.1 else 13875388141788987392
noncomputable def qDrawn (S : St) : UInt32 := if (lp S.cfg).length = 0 then 3296346112 else drawnV S.cfg
theorem R'_meanMoves {V : Nat → Cfg} {W : Nat} {u : MU} {A : Ab} {S : St} {Q : UInt64 → MU → Prop} (hC : CI V W u A none 0) (hS : A.S = S) (hW : W + 40 < 2 ^ 20) (hq : ∀ V' W' u', W' ≤ W + 40 → CI V' W' u' A none 0 → Q (qMean S) u') : w_R_meanMoves u Q := by
  subst hS
  have h := L_meanMoves (o := fun _ => 0) (Q := zQ3D 13875388141788987392 Q) hC (by omega) (fun V' W' u' o' w c e => by
    have eA : (a_mean A).2.2 = A := by unfold a_mean; split <;> rfl
    rw [eA] at c
    have h := hq V' W' u' w c
    unfold qMean at h
    have e1 : (a_mean (A0 A.S)).1 = (a_mean A).1 := by unfold a_mean; simp only [show (A0 A.S).S = A.S from rfl]; split <;> rfl
    have e2 : (a_mean (A0 A.S)).2.1 = (a_mean A).2.1 := by unfold a_mean; simp only [show (A0 A.S).S = A.S from rfl]; split <;> rfl
    rw [e1, e2] at h
    have h01 : (a_mean A).1 = 0 ∨ (a_mean A).1 = 1 := by unfold a_mean; split <;> simp
    unfold zQ3D
    rcases h01 with z | z
    · rw [z] at h ⊢
      rw [if_pos rfl] at h
      rw [if_pos (show nI 0 = 0 by decide), e z]
      exact h
    · rw [z] at h ⊢
      rw [if_neg (by decide)] at h
      rw [if_neg (by decide)]
      exact h)
  unfold w_L_meanMoves at h
  have e0 : ∀ (r : UInt64) (u1 : MU), zQ3D 13875388141788987392 Q 0 u1 (vf_upd (fun _ => 0) ((0 : Int32)).toNatClampNeg r) = Q r u1 := fun r u1 => by
    unfold zQ3D
    rw [if_pos rfl]
    show Q (vf_upd (fun _ => 0) 0 r 0) u1 = Q r u1
    unfold vf_upd
    rw [if_pos rfl]
  have e1 : ∀ (u1 : MU), zQ3D 13875388141788987392 Q 1 u1 (fun _ => 0) = Q 13875388141788987392 u1 := fun u1 => by
    unfold zQ3D
    rw [if_neg (by decide)]
  simp only [e0, e1] at h
  exact h
theorem R'_drawn {V : Nat → Cfg} {W : Nat} {u : MU} {A : Ab} {S : St} {Q : UInt32 → MU → Prop} (hC : CI V W u A none 0) (hS : A.S = S) (hW : W + 40 < 2 ^ 20) (hq : ∀ V' W' u', W' ≤ W + 40 → CI V' W' u' A none 0 → Q (qDrawn S) u') : w_R_drawn u Q := by
  subst hS
  have hc := hC.c
  have hl := lp_len hc
  unfold qDrawn at hq
  unfold w_R_drawn w_X9_drawn
  refine s_solve95 hC (by omega) (fun u' c1 c2 c3 => ?_)
  rw [c2.1]
  refine ⟨fun z => s_positionsIn c1 (by omega) (fun u2' c4 c5 => ?_), fun z => ?_⟩
  · have h0 : ¬ (lp A.S.cfg).length = 0 := fun e => z (by rw [e]; rfl)
    rw [if_neg h0] at hq
    rw [c5.1]
    obtain ⟨n1, n2⟩ := fdiv_n (x := nI ((lp A.S.cfg).countP (pIn A.S.cfg (-1)))) (n := (lp A.S.cfg).length) (by omega) (by omega)
    exact ⟨n1, hq _ W _ (by omega) c4⟩
  · have h0 : (lp A.S.cfg).length = 0 := (nI_eq (b := 0) (by omega) (by decide)).mp z
    rw [if_pos h0] at hq
    exact ⟨rfl, hq _ W _ (by omega) c1⟩
theorem R'_line {V : Nat → Cfg} {W : Nat} {u : MU} {A : Ab} {S : St} {Q : Int32 → MU → Prop} (hC : CI V W u A none 0) (hS : A.S = S) (hq : ∀ u', CI V W u' (A.setL (lineT S.game)) none 0 → Q (nI (lineT S.game).length) u') : w_X9_line u Q := by
  subst hS
  exact s_line hC (fun u' c => hq u' c)
