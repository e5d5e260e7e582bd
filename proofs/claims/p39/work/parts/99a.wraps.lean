/-! THE LAW'S WRAPPERS, out of what the class's methods do -/
theorem lt_undo {A : Ab} : (a_undo A).1 < 3 := by
  unfold a_undo
  (repeat' split) <;> first | exact (by decide : (0 : Nat) < 3) | exact (by decide : (1 : Nat) < 3) | exact (by decide : (2 : Nat) < 3)
theorem lt_restore {A : Ab} : (a_restore A).1 < 3 := by
  unfold a_restore
  (repeat' split) <;> first | exact (by decide : (0 : Nat) < 3) | exact (by decide : (1 : Nat) < 3) | exact (by decide : (2 : Nat) < 3)
theorem lt_position {A : Ab} {x : Int32} {y : Int32} {z : Int32} {b : Bool} : (a_position A x y z b).1 < 3 := by
  unfold a_position
  (repeat' split) <;> first | exact (by decide : (0 : Nat) < 3) | exact (by decide : (1 : Nat) < 3) | exact (by decide : (2 : Nat) < 3)
theorem lt_positionOf {A : Ab} {x : Int32} {y : Int32} : (a_positionOf A x y).1 < 3 := by
  unfold a_positionOf
  (repeat' split) <;> first | exact (by decide : (0 : Nat) < 3) | exact (by decide : (1 : Nat) < 3) | exact (by decide : (2 : Nat) < 3)
theorem lt_outcomeAgain {A : Ab} {x : Int32} : (a_outcomeAgain A x).1 < 3 := by
  unfold a_outcomeAgain
  (repeat' split) <;> first | exact (by decide : (0 : Nat) < 3) | exact (by decide : (1 : Nat) < 3) | exact (by decide : (2 : Nat) < 3)
theorem lt_moveOf {A : Ab} {x : Int32} {y : Int32} {b : Bool} : (a_moveOf A x y b).1 < 3 := by
  unfold a_moveOf
  (repeat' split) <;> first | exact (by decide : (0 : Nat) < 3) | exact (by decide : (1 : Nat) < 3) | exact (by decide : (2 : Nat) < 3)
theorem lt_best {A : Ab} {x : Int32} : (a_best A x).1 < 3 := by
  unfold a_best
  (repeat' split) <;> first | exact (by decide : (0 : Nat) < 3) | exact (by decide : (1 : Nat) < 3) | exact (by decide : (2 : Nat) < 3)
theorem lt_after {A : Ab} {x : Int32} {y : Int32} {z : Int32} : (a_after A x y z).1 < 3 := by
  unfold a_after
  (repeat' split) <;> first | exact (by decide : (0 : Nat) < 3) | exact (by decide : (1 : Nat) < 3) | exact (by decide : (2 : Nat) < 3)
theorem lt_ends {A : Ab} {x : Int32} : (a_ends A x).1 < 3 := by
  unfold a_ends
  (repeat' split) <;> first | exact (by decide : (0 : Nat) < 3) | exact (by decide : (1 : Nat) < 3) | exact (by decide : (2 : Nat) < 3)
theorem lt_count {A : Ab} {x : Int32} {b : Bool} : (a_count A x b).1 < 3 := by
  unfold a_count
  (repeat' split) <;> first | exact (by decide : (0 : Nat) < 3) | exact (by decide : (1 : Nat) < 3) | exact (by decide : (2 : Nat) < 3)
theorem lt_longest {A : Ab} {b : Bool} : (a_longest A b).1 < 3 := by
  unfold a_longest
  (repeat' split) <;> first | exact (by decide : (0 : Nat) < 3) | exact (by decide : (1 : Nat) < 3) | exact (by decide : (2 : Nat) < 3)
theorem lt_wonIn {A : Ab} {x : Int32} : (a_wonIn A x).1 < 3 := by
  unfold a_wonIn
  (repeat' split) <;> first | exact (by decide : (0 : Nat) < 3) | exact (by decide : (1 : Nat) < 3) | exact (by decide : (2 : Nat) < 3)
theorem lt_wouldChange {A : Ab} {x : Int32} {y : Int32} : (a_wouldChange A x y).1 < 3 := by
  unfold a_wouldChange
  (repeat' split) <;> first | exact (by decide : (0 : Nat) < 3) | exact (by decide : (1 : Nat) < 3) | exact (by decide : (2 : Nat) < 3)
theorem lt_bestBurrow {A : Ab} {x : Int32} : (a_bestBurrow A x).1 < 3 := by
  unfold a_bestBurrow
  (repeat' split) <;> first | exact (by decide : (0 : Nat) < 3) | exact (by decide : (1 : Nat) < 3) | exact (by decide : (2 : Nat) < 3)
theorem lt_burrowOf {A : Ab} {x : Int32} {y : Int32} : (a_burrowOf A x y).1 < 3 := by
  unfold a_burrowOf
  (repeat' split) <;> first | exact (by decide : (0 : Nat) < 3) | exact (by decide : (1 : Nat) < 3) | exact (by decide : (2 : Nat) < 3)
theorem lt_pathOf {A : Ab} {x : Int32} {b : Bool} : (a_pathOf A x b).1 < 3 := by
  unfold a_pathOf
  (repeat' split) <;> first | exact (by decide : (0 : Nat) < 3) | exact (by decide : (1 : Nat) < 3) | exact (by decide : (2 : Nat) < 3)
theorem lt_now {A : Ab} : (a_now A).1 < 3 := by
  unfold a_now
  (repeat' split) <;> first | exact (by decide : (0 : Nat) < 3) | exact (by decide : (1 : Nat) < 3) | exact (by decide : (2 : Nat) < 3)
theorem lt_account {A : Ab} {x : Int32} : (a_account A x).1 < 3 := by
  unfold a_account
  (repeat' split) <;> first | exact (by decide : (0 : Nat) < 3) | exact (by decide : (1 : Nat) < 3) | exact (by decide : (2 : Nat) < 3)
theorem lt_append {A : Ab} {x : Int32} : (a_append A x).1 < 3 := by
  unfold a_append
  (repeat' split) <;> first | exact (by decide : (0 : Nat) < 3) | exact (by decide : (1 : Nat) < 3) | exact (by decide : (2 : Nat) < 3)
theorem lt_reason {A : Ab} {x : Int32} : (a_reason A x).1 < 3 := by
  unfold a_reason
  (repeat' split) <;> first | exact (by decide : (0 : Nat) < 3) | exact (by decide : (1 : Nat) < 3) | exact (by decide : (2 : Nat) < 3)
theorem lt_character {A : Ab} {x : Int32} : (a_character A x).1 < 3 := by
  unfold a_character
  (repeat' split) <;> first | exact (by decide : (0 : Nat) < 3) | exact (by decide : (1 : Nat) < 3) | exact (by decide : (2 : Nat) < 3)
theorem lt_commands {A : Ab} : (a_commands A).1 < 3 := by
  unfold a_commands
  (repeat' split) <;> first | exact (by decide : (0 : Nat) < 3) | exact (by decide : (1 : Nat) < 3) | exact (by decide : (2 : Nat) < 3)
theorem lt_change {A : Ab} {r : Rs} : (a_change A r).1 < 3 := by
  cases r with
  | inl z => exact (by decide : (1 : Nat) < 3)
  | inr z => exact (by decide : (0 : Nat) < 3)
def zQ3 (Q : Int32 → MU → Prop) : Int32 → MU → (Nat → Int64) → Prop := fun k u o => if k = 0 then Q (o 0).toInt32 u else Q (-1000 - k) u
theorem zQ3_0 {Q : Int32 → MU → Prop} {o : Nat → Int64} {r : Int32} {u : MU} : zQ3 Q 0 u (vp_updL o ((0 : Int32)).toNatClampNeg r.toInt64) = Q r u := by
  unfold zQ3
  rw [if_pos rfl, show vp_updL o ((0 : Int32)).toNatClampNeg r.toInt64 0 = r.toInt64 by show vp_updL o 0 r.toInt64 0 = r.toInt64; unfold vp_updL; rw [if_pos rfl], Int32.toInt32_toInt64]
theorem zQ3_1 {Q : Int32 → MU → Prop} {o : Nat → Int64} {u : MU} : zQ3 Q 1 u o = Q (-1001) u := by
  unfold zQ3
  rw [if_neg (by decide)]; rfl
theorem zQ3_2 {Q : Int32 → MU → Prop} {o : Nat → Int64} {u : MU} : zQ3 Q 2 u o = Q (-1002) u := by
  unfold zQ3
  rw [if_neg (by decide)]; rfl
/-- the wrapper's answer -/
def rv (k : Ans) : Int32 := if k.1 = 0 then k.2.1 else if k.1 = 1 then -1001 else -1002
def RPost (W : Nat) (k : Ans) (Q : Int32 → MU → Prop) : Prop := ∀ V' W' u', W' ≤ W + 40 → CI V' W' u' k.2.2 none 0 → Q (rv k) u'
theorem RPost.L {W : Nat} {k : Ans} {Q : Int32 → MU → Prop} (hk : k.1 < 3) (h : RPost W k Q) : LPost W k (zQ3 Q) := fun V' W' u' o' h1 h2 h3 => by
  have h := h V' W' u' h1 h2
  obtain ⟨i, r, A⟩ := k
  match i, hk, h, h3 with
  | 0, _, h, h3 => 
    show zQ3 Q 0 u' o'
    unfold zQ3
    rw [if_pos rfl, h3 rfl]
    show Q (r.toInt64).toInt32 u'
    rw [Int32.toInt32_toInt64]
    exact h
  | 1, _, h, _ => show zQ3 Q 1 u' o'; rw [zQ3_1]; exact h
  | 2, _, h, _ => show zQ3 Q 2 u' o'; rw [zQ3_2]; exact h
  | n + 3, hk, _, _ => exact absurd (show n + 3 < 3 from hk) (by omega)
def zQ3D (x : UInt64) (Q : UInt64 → MU → Prop) : Int32 → MU → (Nat → UInt64) → Prop := fun k u o => if k = 0 then Q (o 0) u else Q x u
theorem R_undo {V : Nat → Cfg} {W : Nat} {u : MU} {A : Ab} {Q : Int32 → MU → Prop} (hC : CI V W u A none 0) (hq : RPost W (a_undo A) Q) : w_R_undo  u Q := by
  have h := L_undo (o := fun _ => 0) (Q := zQ3 Q) hC (RPost.L lt_undo hq)
  unfold w_L_undo at h
  simp only [zQ3_0, zQ3_1, zQ3_2] at h
  exact h
theorem R_restore {V : Nat → Cfg} {W : Nat} {u : MU} {A : Ab} {Q : Int32 → MU → Prop} (hC : CI V W u A none 0) (hq : RPost W (a_restore A) Q) : w_R_restore  u Q := by
  have h := L_restore (o := fun _ => 0) (Q := zQ3 Q) hC (RPost.L lt_restore hq)
  unfold w_L_restore at h
  simp only [zQ3_0, zQ3_1, zQ3_2] at h
  exact h
theorem R_dig {V : Nat → Cfg} {W : Nat} {u : MU} {A : Ab} {Q : Int32 → MU → Prop} (hC : CI V W u A none 0) (hq : RPost W (a_change A (opDig A.S)) Q) : w_R_dig  u Q := by
  have h := L_dig (o := fun _ => 0) (Q := zQ3 Q) hC (RPost.L lt_change hq)
  unfold w_L_dig at h
  simp only [zQ3_0, zQ3_1, zQ3_2] at h
  exact h
theorem R_tread {V : Nat → Cfg} {W : Nat} {u : MU} {A : Ab} {x y : Int32} {Q : Int32 → MU → Prop} (hC : CI V W u A none 0) (hq : RPost W (a_change A (opTread A.S x y)) Q) : w_R_tread x y u Q := by
  have h := L_tread (o := fun _ => 0) (Q := zQ3 Q) hC (RPost.L lt_change hq)
  unfold w_L_tread at h
  simp only [zQ3_0, zQ3_1, zQ3_2] at h
  exact h
theorem R_grow {V : Nat → Cfg} {W : Nat} {u : MU} {A : Ab} {x y : Int32} {Q : Int32 → MU → Prop} (hC : CI V W u A none 0) (hq : RPost W (a_change A (opGrow A.S x y)) Q) : w_R_grow x y u Q := by
  have h := L_grow (o := fun _ => 0) (Q := zQ3 Q) hC (RPost.L lt_change hq)
  unfold w_L_grow at h
  simp only [zQ3_0, zQ3_1, zQ3_2] at h
  exact h
theorem R_trap {V : Nat → Cfg} {W : Nat} {u : MU} {A : Ab} {x : Int32} {b : Bool} {Q : Int32 → MU → Prop} (hC : CI V W u A none 0) (hq : RPost W (a_change A (opTrap A.S x b)) Q) : w_R_trap x (bI b) u Q := by
  have h := L_trap (o := fun _ => 0) (Q := zQ3 Q) hC (RPost.L lt_change hq)
  unfold w_L_trap at h
  simp only [zQ3_0, zQ3_1, zQ3_2] at h
  exact h
theorem R_flock {V : Nat → Cfg} {W : Nat} {u : MU} {A : Ab} {x : Int32} {Q : Int32 → MU → Prop} (hC : CI V W u A none 0) (hq : RPost W (a_change A (opFlock A.S x)) Q) : w_R_flock x u Q := by
  have h := L_flock (o := fun _ => 0) (Q := zQ3 Q) hC (RPost.L lt_change hq)
  unfold w_L_flock at h
  simp only [zQ3_0, zQ3_1, zQ3_2] at h
  exact h
theorem R_begin {V : Nat → Cfg} {W : Nat} {u : MU} {A : Ab} {x : Int32} {Q : Int32 → MU → Prop} (hC : CI V W u A none 0) (hq : RPost W (a_change A (opBegin A.S x)) Q) : w_R_begin x u Q := by
  have h := L_begin (o := fun _ => 0) (Q := zQ3 Q) hC (RPost.L lt_change hq)
  unfold w_L_begin at h
  simp only [zQ3_0, zQ3_1, zQ3_2] at h
  exact h
theorem R_move {V : Nat → Cfg} {W : Nat} {u : MU} {A : Ab} {x y : Int32} {Q : Int32 → MU → Prop} (hC : CI V W u A none 0) (hq : RPost W (a_change A (opMove A.S x y)) Q) : w_R_move x y u Q := by
  have h := L_move (o := fun _ => 0) (Q := zQ3 Q) hC (RPost.L lt_change hq)
  unfold w_L_move at h
  simp only [zQ3_0, zQ3_1, zQ3_2] at h
  exact h
theorem R_play {V : Nat → Cfg} {W : Nat} {u : MU} {A : Ab} {x : Int32} {Q : Int32 → MU → Prop} (hC : CI V W u A none 0) (hW : W + 40 < 2 ^ 20) (hq : RPost W (a_change A (opPlay A.S x)) Q) : w_R_play x u Q := by
  have h := L_play (o := fun _ => 0) (Q := zQ3 Q) hC (by omega) (RPost.L lt_change hq)
  unfold w_L_play at h
  simp only [zQ3_0, zQ3_1, zQ3_2] at h
  exact h
theorem R_back {V : Nat → Cfg} {W : Nat} {u : MU} {A : Ab} {Q : Int32 → MU → Prop} (hC : CI V W u A none 0) (hq : RPost W (a_change A (opBack A.S)) Q) : w_R_back  u Q := by
  have h := L_back (o := fun _ => 0) (Q := zQ3 Q) hC (RPost.L lt_change hq)
  unfold w_L_back at h
  simp only [zQ3_0, zQ3_1, zQ3_2] at h
  exact h
theorem R_position {V : Nat → Cfg} {W : Nat} {u : MU} {A : Ab} {x y z : Int32} {b : Bool} {Q : Int32 → MU → Prop} (hC : CI V W u A none 0) (hq : RPost W (a_position A x y z b) Q) : w_R_position x y z (bI b) u Q := by
  have h := L_position (o := fun _ => 0) (Q := zQ3 Q) hC (RPost.L lt_position hq)
  unfold w_L_position at h
  simp only [zQ3_0, zQ3_1, zQ3_2] at h
  exact h
theorem R_positionOf {V : Nat → Cfg} {W : Nat} {u : MU} {A : Ab} {x y : Int32} {Q : Int32 → MU → Prop} (hC : CI V W u A none 0) (hW : W + 40 < 2 ^ 20) (hq : RPost W (a_positionOf A x y) Q) : w_R_positionOf x y u Q := by
  have h := L_positionOf (o := fun _ => 0) (Q := zQ3 Q) hC (by omega) (RPost.L lt_positionOf hq)
  unfold w_L_positionOf at h
  simp only [zQ3_0, zQ3_1, zQ3_2] at h
  exact h
theorem R_outcomeAgain {V : Nat → Cfg} {W : Nat} {u : MU} {A : Ab} {x : Int32} {Q : Int32 → MU → Prop} (hC : CI V W u A none 0) (hW : W + 40 < 2 ^ 20) (hq : RPost W (a_outcomeAgain A x) Q) : w_R_outcomeAgain x u Q := by
  have h := L_outcomeAgain (o := fun _ => 0) (Q := zQ3 Q) hC (by omega) (RPost.L lt_outcomeAgain hq)
  unfold w_L_outcomeAgain at h
  simp only [zQ3_0, zQ3_1, zQ3_2] at h
  exact h
theorem R_best {V : Nat → Cfg} {W : Nat} {u : MU} {A : Ab} {x : Int32} {Q : Int32 → MU → Prop} (hC : CI V W u A none 0) (hW : W + 40 < 2 ^ 20) (hq : RPost W (a_best A x) Q) : w_R_best x u Q := by
  have h := L_best (o := fun _ => 0) (Q := zQ3 Q) hC (by omega) (RPost.L lt_best hq)
  unfold w_L_best at h
  simp only [zQ3_0, zQ3_1, zQ3_2] at h
  exact h
theorem R_after {V : Nat → Cfg} {W : Nat} {u : MU} {A : Ab} {x y z : Int32} {Q : Int32 → MU → Prop} (hC : CI V W u A none 0) (hq : RPost W (a_after A x y z) Q) : w_R_after x y z u Q := by
  have h := L_after (o := fun _ => 0) (Q := zQ3 Q) hC (RPost.L lt_after hq)
  unfold w_L_after at h
  simp only [zQ3_0, zQ3_1, zQ3_2] at h
  exact h
theorem R_moveOf {V : Nat → Cfg} {W : Nat} {u : MU} {A : Ab} {x y : Int32} {b : Bool} {Q : Int32 → MU → Prop} (hC : CI V W u A none 0) (hq : RPost W (a_moveOf A x y b) Q) : w_R_moveOf x y (bI b) u Q := by
  have h := L_moveOf (o := fun _ => 0) (Q := zQ3 Q) hC (RPost.L lt_moveOf hq)
  unfold w_L_moveOf at h
  simp only [zQ3_0, zQ3_1, zQ3_2] at h
  exact h
theorem R_ending {V : Nat → Cfg} {W : Nat} {u : MU} {A : Ab} {x : Int32} {Q : Int32 → MU → Prop} (hC : CI V W u A none 0) (hW : W + 40 < 2 ^ 20) (hq : RPost W (a_ends A x) Q) : w_R_ending x u Q := by
  have h := L_ends (o := fun _ => 0) (Q := zQ3 Q) hC (by omega) (RPost.L lt_ends hq)
  unfold w_L_ends at h
  simp only [zQ3_0, zQ3_1, zQ3_2] at h
  exact h
theorem R_count {V : Nat → Cfg} {W : Nat} {u : MU} {A : Ab} {x : Int32} {b : Bool} {Q : Int32 → MU → Prop} (hC : CI V W u A none 0) (hW : W + 40 < 2 ^ 20) (hq : RPost W (a_count A x b) Q) : w_R_count x (bI b) u Q := by
  have h := L_count (o := fun _ => 0) (Q := zQ3 Q) hC (by omega) (RPost.L lt_count hq)
  unfold w_L_count at h
  simp only [zQ3_0, zQ3_1, zQ3_2] at h
  exact h
theorem R_longest {V : Nat → Cfg} {W : Nat} {u : MU} {A : Ab} {b : Bool} {Q : Int32 → MU → Prop} (hC : CI V W u A none 0) (hW : W + 40 < 2 ^ 20) (hq : RPost W (a_longest A b) Q) : w_R_longest (bI b) u Q := by
  have h := L_longest (o := fun _ => 0) (Q := zQ3 Q) hC (by omega) (RPost.L lt_longest hq)
  unfold w_L_longest at h
  simp only [zQ3_0, zQ3_1, zQ3_2] at h
  exact h
theorem R_wonIn {V : Nat → Cfg} {W : Nat} {u : MU} {A : Ab} {x : Int32} {Q : Int32 → MU → Prop} (hC : CI V W u A none 0) (hW : W + 40 < 2 ^ 20) (hq : RPost W (a_wonIn A x) Q) : w_R_wonIn x u Q := by
  have h := L_wonIn (o := fun _ => 0) (Q := zQ3 Q) hC (by omega) (RPost.L lt_wonIn hq)
  unfold w_L_wonIn at h
  simp only [zQ3_0, zQ3_1, zQ3_2] at h
  exact h
theorem R_wouldChange {V : Nat → Cfg} {W : Nat} {u : MU} {A : Ab} {x y : Int32} {Q : Int32 → MU → Prop} (hC : CI V W u A none 0) (hW : W + 40 < 2 ^ 20) (hq : RPost W (a_wouldChange A x y) Q) : w_R_wouldChange x y u Q := by
  have h := L_wouldChange (o := fun _ => 0) (Q := zQ3 Q) hC (by omega) (RPost.L lt_wouldChange hq)
  unfold w_L_wouldChange at h
  simp only [zQ3_0, zQ3_1, zQ3_2] at h
  exact h
theorem R_bestBurrow {V : Nat → Cfg} {W : Nat} {u : MU} {A : Ab} {x : Int32} {Q : Int32 → MU → Prop} (hC : CI V W u A none 0) (hW : W + 40 < 2 ^ 20) (hq : RPost W (a_bestBurrow A x) Q) : w_R_bestBurrow x u Q := by
  have h := L_bestBurrow (o := fun _ => 0) (Q := zQ3 Q) hC (by omega) (RPost.L lt_bestBurrow hq)
  unfold w_L_bestBurrow at h
  simp only [zQ3_0, zQ3_1, zQ3_2] at h
  exact h
theorem R_burrowOf {V : Nat → Cfg} {W : Nat} {u : MU} {A : Ab} {x y : Int32} {Q : Int32 → MU → Prop} (hC : CI V W u A none 0) (hW : W + 40 < 2 ^ 20) (hq : RPost W (a_burrowOf A x y) Q) : w_R_burrowOf x y u Q := by
  have h := L_burrowOf (o := fun _ => 0) (Q := zQ3 Q) hC (by omega) (RPost.L lt_burrowOf hq)
  unfold w_L_burrowOf at h
  simp only [zQ3_0, zQ3_1, zQ3_2] at h
  exact h
theorem R_pathOf {V : Nat → Cfg} {W : Nat} {u : MU} {A : Ab} {x : Int32} {b : Bool} {Q : Int32 → MU → Prop} (hC : CI V W u A none 0) (hq : RPost W (a_pathOf A x b) Q) : w_R_pathOf x (bI b) u Q := by
  have h := L_pathOf (o := fun _ => 0) (Q := zQ3 Q) hC (RPost.L lt_pathOf hq)
  unfold w_L_pathOf at h
  simp only [zQ3_0, zQ3_1, zQ3_2] at h
  exact h
theorem R_now {V : Nat → Cfg} {W : Nat} {u : MU} {A : Ab} {Q : Int32 → MU → Prop} (hC : CI V W u A none 0) (hq : RPost W (a_now A) Q) : w_R_now  u Q := by
  have h := L_now (o := fun _ => 0) (Q := zQ3 Q) hC (RPost.L lt_now hq)
  unfold w_L_now at h
  simp only [zQ3_0, zQ3_1, zQ3_2] at h
  exact h
theorem R_account {V : Nat → Cfg} {W : Nat} {u : MU} {A : Ab} {x : Int32} {Q : Int32 → MU → Prop} (hC : CI V W u A none 0) (hW : W + 40 < 2 ^ 20) (hq : RPost W (a_account A x) Q) : w_R_account x u Q := by
  have h := L_account (o := fun _ => 0) (Q := zQ3 Q) hC (by omega) (RPost.L lt_account hq)
  unfold w_L_account at h
  simp only [zQ3_0, zQ3_1, zQ3_2] at h
  exact h
theorem R_append {V : Nat → Cfg} {W : Nat} {u : MU} {A : Ab} {x : Int32} (hx : chI x) {Q : Int32 → MU → Prop} (hC : CI V W u A none 0) (hq : RPost W (a_append A x) Q) : w_R_append x u Q := by
  have h := L_append (o := fun _ => 0) (Q := zQ3 Q) hx hC (RPost.L lt_append hq)
  unfold w_L_append at h
  simp only [zQ3_0, zQ3_1, zQ3_2] at h
  exact h
theorem R_reason {V : Nat → Cfg} {W : Nat} {u : MU} {A : Ab} {x : Int32} {Q : Int32 → MU → Prop} (hC : CI V W u A none 0) (hq : RPost W (a_reason A x) Q) : w_R_reason x u Q := by
  have h := L_reason (o := fun _ => 0) (Q := zQ3 Q) hC (RPost.L lt_reason hq)
  unfold w_L_reason at h
  simp only [zQ3_0, zQ3_1, zQ3_2] at h
  exact h
theorem R_character {V : Nat → Cfg} {W : Nat} {u : MU} {A : Ab} {x : Int32} {Q : Int32 → MU → Prop} (hC : CI V W u A none 0) (hq : RPost W (a_character A x) Q) : w_R_character x u Q := by
  have h := L_character (o := fun _ => 0) (Q := zQ3 Q) hC (RPost.L lt_character hq)
  unfold w_L_character at h
  simp only [zQ3_0, zQ3_1, zQ3_2] at h
  exact h
theorem R_commands {V : Nat → Cfg} {W : Nat} {u : MU} {A : Ab} {Q : Int32 → MU → Prop} (hC : CI V W u A none 0) (hW : W + 40 < 2 ^ 20) (hq : RPost W (a_commands A) Q) : w_R_commands  u Q := by
  have h := L_commands (o := fun _ => 0) (Q := zQ3 Q) hC (by omega) (RPost.L lt_commands hq)
  unfold w_L_commands at h
  simp only [zQ3_0, zQ3_1, zQ3_2] at h
  exact h
theorem R_save {V : Nat → Cfg} {W : Nat} {u : MU} {A : Ab} {Q : Int32 → MU → Prop} (hC : CI V W u A none 0) (hq : RPost W (a_save A) Q) : w_X9_save u Q := C_save hC (fun u' c => hq V W u' (by omega) c)
