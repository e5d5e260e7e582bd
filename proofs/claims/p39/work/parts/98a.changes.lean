/-! the class's changes, as the law calls them -/
theorem plG_le (c : Cfg) : ∀ n g, (plG c n g).2 ≤ n
  | 0, g => Nat.le_refl _
  | n + 1, g => by
    rw [plG]
    split
    · exact Nat.zero_le _
    · cases bestK c (slv c) g.2 with
      | none => exact Nat.zero_le _
      | some k => exact Nat.succ_le_succ (plG_le c n _)
theorem pcN_le (t : Nat) : pcN t ≤ 8 := fb_ct_le _ 8
theorem dig_lt {S T : St} (hS : StOk S) {a : Nat} (h : opDig S = .inr (a, T)) : a < 2 ^ 31 := by
  have := hS.1
  unfold opDig at h
  split at h
  · cases h; omega
  · cases h
theorem tread_lt {S T : St} (hS : StOk S) {x y : Int32} {a : Nat} (h : opTread S x y = .inr (a, T)) : a < 2 ^ 31 := by
  have := hS.2.2.2.1.1
  unfold opTread at h
  split at h
  · cases h
  · split at h
    · cases h
    · split at h
      · cases h
      · split at h
        · cases h
        · split at h
          · cases h; omega
          · cases h
theorem grow_lt {S T : St} (hS : StOk S) {x y : Int32} {a : Nat} (h : opGrow S x y = .inr (a, T)) : a < 2 ^ 31 := by
  have := hS.2.2.2.1.1
  unfold opGrow at h
  split at h
  · cases h
  · split at h
    · cases h
    · split at h
      · cases h; omega
      · cases h
theorem trap_lt {S T : St} {x : Int32} {b : Bool} {a : Nat} (h : opTrap S x b = .inr (a, T)) : a < 2 ^ 31 := by
  unfold opTrap at h
  split at h
  · cases h
  · split at h
    · cases h
    · have := pcN_le (S.traps ^^^ 2 ^ cl x)
      cases h; omega
theorem flock_lt {S T : St} (hS : StOk S) {x : Int32} {a : Nat} (h : opFlock S x = .inr (a, T)) : a < 2 ^ 31 := by
  have := hS.2.1
  unfold opFlock at h
  split at h
  · cases h
  · split at h
    · cases h
    · split at h
      · cases h
      · cases h; omega
theorem begin_lt {S T : St} {x : Int32} {a : Nat} (h : opBegin S x = .inr (a, T)) : a < 2 ^ 31 := by
  unfold opBegin at h
  split at h
  · cases h
  · have := mvs_le (c := S.cfg) (p := cl x)
    cases h; omega
theorem move_lt {S T : St} {x y : Int32} {a : Nat} (h : opMove S x y = .inr (a, T)) : a < 2 ^ 31 := by
  unfold opMove at h
  split at h
  · cases h
  · rename_i h' p hg
    split at h
    · cases h
    · split at h
      · cases h
      · split at h
        · have := mvs_le (c := S.cfg) (p := sh p (cl x) (cl y))
          cases h; omega
        · cases h
theorem back_lt {S T : St} (hS : StOk S) {a : Nat} (h : opBack S = .inr (a, T)) : a < 2 ^ 31 := by
  unfold opBack at h
  split at h
  · cases h
  · rename_i h' p hg
    have := (hS.2.2.2.2 _ _ hg).1
    split at h
    · cases h
    · cases h; omega
theorem play_lt {S T : St} {x : Int32} {a : Nat} (h : opPlay S x = .inr (a, T)) : a < 2 ^ 31 := by
  unfold opPlay at h
  split at h
  · cases h
  · split at h
    · cases h
    · rename_i h1 h2
      have hx0 : ¬ x < 0 := fun z => h1 (fa_trans z (by decide))
      obtain ⟨M, hM, rfl⟩ := nI_of hx0
      have g2 : ¬ 40 < M := fun z => h2 (nI_lt (a := 40) z hM)
      rw [show cl (nI M) = M from nI_clamp hM] at h
      split at h
      · cases h
      · rename_i h' p hg
        split at h
        · cases h
        · split at h
          · have := plG_le S.cfg M (h', p)
            cases h; omega
          · cases h
theorem L_dig {V : Nat → Cfg} {W : Nat} {u : MU} {A : Ab} {o : Nat → Int64} {Q : Int32 → MU → (Nat → Int64) → Prop} (hC : CI V W u A none 0) (hq : LPost W (a_change A (opDig A.S)) Q) : w_L_dig u o Q := by
  unfold w_L_dig w_X9_dig
  exact s_change (wop := fun u Q => w_X9_addBurrow u Q) (fun u Q c h => s_dig c h) (fun a S h => dig_lt hC.S h) hC hq.change
theorem L_tread {V : Nat → Cfg} {W : Nat} {u : MU} {A : Ab} {o : Nat → Int64} {x y : Int32} {Q : Int32 → MU → (Nat → Int64) → Prop} (hC : CI V W u A none 0) (hq : LPost W (a_change A (opTread A.S x y)) Q) : w_L_tread x y u o Q := by
  unfold w_L_tread w_X9_tread
  exact s_change (wop := fun u Q => w_X9_addPath x y u Q) (fun u Q c h => s_tread c h) (fun a S h => tread_lt hC.S h) hC hq.change
theorem L_grow {V : Nat → Cfg} {W : Nat} {u : MU} {A : Ab} {o : Nat → Int64} {x y : Int32} {Q : Int32 → MU → (Nat → Int64) → Prop} (hC : CI V W u A none 0) (hq : LPost W (a_change A (opGrow A.S x y)) Q) : w_L_grow x y u o Q := by
  unfold w_L_grow w_X9_grow
  exact s_change (wop := fun u Q => w_X9_dropPath x y u Q) (fun u Q c h => s_grow c h) (fun a S h => grow_lt hC.S h) hC hq.change
theorem L_trap {V : Nat → Cfg} {W : Nat} {u : MU} {A : Ab} {o : Nat → Int64} {x : Int32} {b : Bool} {Q : Int32 → MU → (Nat → Int64) → Prop} (hC : CI V W u A none 0) (hq : LPost W (a_change A (opTrap A.S x b)) Q) : w_L_trap x (bI b) u o Q := by
  unfold w_L_trap w_X9_trap
  exact s_change (wop := fun u Q => w_X9_turnTrap x (bI b) u Q) (fun u Q c h => s_trap c h) (fun a S h => trap_lt h) hC hq.change
theorem L_flock {V : Nat → Cfg} {W : Nat} {u : MU} {A : Ab} {o : Nat → Int64} {x : Int32} {Q : Int32 → MU → (Nat → Int64) → Prop} (hC : CI V W u A none 0) (hq : LPost W (a_change A (opFlock A.S x)) Q) : w_L_flock x u o Q := by
  unfold w_L_flock w_X9_flock
  exact s_change (wop := fun u Q => w_X9_setGeese x u Q) (fun u Q c h => s_flock c h) (fun a S h => flock_lt hC.S h) hC hq.change
theorem L_begin {V : Nat → Cfg} {W : Nat} {u : MU} {A : Ab} {o : Nat → Int64} {x : Int32} {Q : Int32 → MU → (Nat → Int64) → Prop} (hC : CI V W u A none 0) (hq : LPost W (a_change A (opBegin A.S x)) Q) : w_L_begin x u o Q := by
  unfold w_L_begin w_X9_begin
  exact s_change (wop := fun u Q => w_X9_startGame x u Q) (fun u Q c h => s_begin c h) (fun a S h => begin_lt h) hC hq.change
theorem L_move {V : Nat → Cfg} {W : Nat} {u : MU} {A : Ab} {o : Nat → Int64} {x y : Int32} {Q : Int32 → MU → (Nat → Int64) → Prop} (hC : CI V W u A none 0) (hq : LPost W (a_change A (opMove A.S x y)) Q) : w_L_move x y u o Q := by
  unfold w_L_move w_X9_move
  exact s_change (wop := fun u Q => w_X9_makeMove x y u Q) (fun u Q c h => s_move c h) (fun a S h => move_lt h) hC hq.change
theorem L_play {V : Nat → Cfg} {W : Nat} {u : MU} {A : Ab} {o : Nat → Int64} {x : Int32} {Q : Int32 → MU → (Nat → Int64) → Prop} (hC : CI V W u A none 0) (hW : W < 2 ^ 20) (hq : LPost W (a_change A (opPlay A.S x)) Q) : w_L_play x u o Q := by
  unfold w_L_play w_X9_play
  exact s_change (wop := fun u Q => w_X9_letPlay x u Q) (fun u Q c h => s_play c hW h) (fun a S h => play_lt h) hC hq.change
theorem L_back {V : Nat → Cfg} {W : Nat} {u : MU} {A : Ab} {o : Nat → Int64} {Q : Int32 → MU → (Nat → Int64) → Prop} (hC : CI V W u A none 0) (hq : LPost W (a_change A (opBack A.S)) Q) : w_L_back u o Q := by
  unfold w_L_back w_X9_back
  exact s_change (wop := fun u Q => w_X9_takeBack u Q) (fun u Q c h => s_back c h) (fun a S h => back_lt hC.S h) hC hq.change
