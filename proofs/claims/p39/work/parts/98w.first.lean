/-! THE FIRST MEMORY of a FoxBurrows, and the cells that its constructor leaves -/
def u0 : MU := fun k => if zkd k = 3 then (fun j => if j = 3 then 1 else 0) else if zkd k = 9 then (fun j => if j = 1 then -1 else 0) else if zkd k = 10 then (fun j => if j = 0 then -1 else 0) else if zkd k = 1 then (fun j => if j = 13 then -1 else 0) else fun _ => 0
def W0 : MU × ((Nat → Int64) × (Nat → UInt64)) := (fun _ _ => 0, (fun _ => 0, fun _ => 0))
def zAd (a0 : Nat) (d0 : Nat → Nat) : Nat → Nat := fun i => if i = 0 then a0 else d0 (i - 1)
def zSt8 (ca : Nat → ClassId) (ad : Nat → Nat) : va_E := .inl (ca 4, 8, .inr (.inr (.inr (.inr (fun j => some (ad (26 + 1 + 8 * j)))))))
theorem u0_1 {k : Nat} (h : zkd k = 1) : u0 k = fun j => if j = 13 then -1 else 0 := by unfold u0; rw [h]; rfl
theorem u0_2 {k : Nat} (h : zkd k = 2) : u0 k = fun _ => 0 := by unfold u0; rw [h]; rfl
theorem u0_3 {k : Nat} (h : zkd k = 3) : u0 k = fun j => if j = 3 then 1 else 0 := by unfold u0; rw [h]; rfl
theorem u0_4 {k : Nat} (h : zkd k = 4) : u0 k = fun _ => 0 := by unfold u0; rw [h]; rfl
theorem u0_5 {k : Nat} (h : zkd k = 5) : u0 k = fun _ => 0 := by unfold u0; rw [h]; rfl
theorem u0_6 {k : Nat} (h : zkd k = 6) : u0 k = fun _ => 0 := by unfold u0; rw [h]; rfl
theorem u0_7 {k : Nat} (h : zkd k = 7) : u0 k = fun _ => 0 := by unfold u0; rw [h]; rfl
theorem u0_8 {k : Nat} (h : zkd k = 8) : u0 k = fun _ => 0 := by unfold u0; rw [h]; rfl
theorem u0_9 {k : Nat} (h : zkd k = 9) : u0 k = fun j => if j = 1 then -1 else 0 := by unfold u0; rw [h]; rfl
theorem u0_10 {k : Nat} (h : zkd k = 10) : u0 k = fun j => if j = 0 then -1 else 0 := by unfold u0; rw [h]; rfl
theorem u0_11 {k : Nat} (h : zkd k = 11) : u0 k = fun _ => 0 := by unfold u0; rw [h]; rfl
theorem u0_12 {k : Nat} (h : zkd k = 12) : u0 k = fun _ => 0 := by unfold u0; rw [h]; rfl
theorem u0_13 {k : Nat} (h : zkd k = 13) : u0 k = fun _ => 0 := by unfold u0; rw [h]; rfl
theorem zc0_1 {g : GE} {k : Nat} (h : zkd k = 1) : zCell g (u0, W0) k = .inr (9, [.ref (g.2.2.1 1), .ref (g.2.2.1 9), .ref (g.2.2.1 17), .int 0, .ref (g.2.2.1 25), .ref (g.2.2.1 91), .ref (g.2.2.1 95), .ref (g.2.2.1 100), .ref (g.2.2.1 105), .ref (g.2.2.1 108), .ref (g.2.2.1 110), .ref (g.2.2.1 112), .ref (g.2.2.1 116), .int (-1), .int 0, .int 0]) := by
  rw [zCell_k h]
  show zRend g (u0, W0) k 1 = _
  unfold zRend
  simp only [u0_1 h]
  all_goals rfl
theorem zc0_2 {g : GE} {k : Nat} (h : zkd k = 2) : zCell g (u0, W0) k = .inr (6, [.ref (g.2.2.1 (k + 1)), .ref (g.2.2.1 (k + 5)), .int 0]) := by
  rw [zCell_k h]
  show zRend g (u0, W0) k 2 = _
  unfold zRend
  simp only [u0_2 h]
  all_goals rfl
theorem zc0_3 {g : GE} {k : Nat} (h : zkd k = 3) : zCell g (u0, W0) k = .inr (1, [.int 0, .int 0, .int 0, .int 1, .int 0, .ref (g.2.2.1 (k + 1)), .ref (g.2.2.1 (k + 2)), .ref (g.2.2.1 (k + 3))]) := by
  rw [zCell_k h]
  show zRend g (u0, W0) k 3 = _
  unfold zRend
  simp only [u0_3 h]
  all_goals rfl
theorem zc0_4 {g : GE} {k : Nat} (h : zkd k = 4) : zCell g (u0, W0) k = .inr (2, [.int 0, .int 0, .ref (g.2.2.1 (k + 1)), .ref (g.2.2.1 (k + 2))]) := by
  rw [zCell_k h]
  show zRend g (u0, W0) k 4 = _
  unfold zRend
  simp only [u0_4 h]
  all_goals rfl
theorem zc0_7 {g : GE} {k : Nat} (h : zkd k = 7) : zCell g (u0, W0) k = .inr (0, [.ref (g.2.2.1 (k + 1)), .int 0, .int 0]) := by
  rw [zCell_k h]
  show zRend g (u0, W0) k 7 = _
  unfold zRend
  simp only [u0_7 h]
  all_goals rfl
theorem zc0_9 {g : GE} {k : Nat} (h : zkd k = 9) : zCell g (u0, W0) k = .inr (7, [.int 0, .int (-1), .ref (g.2.2.1 (k + 1)), .ref (g.2.2.1 (k + 2)), .ref (g.2.2.1 (k + 3)), .ref (g.2.2.1 (k + 4))]) := by
  rw [zCell_k h]
  show zRend g (u0, W0) k 9 = _
  unfold zRend
  simp only [u0_9 h]
  all_goals rfl
theorem zc0_10 {g : GE} {k : Nat} (h : zkd k = 10) : zCell g (u0, W0) k = .inr (5, [.int (-1), .ref (g.2.2.1 (k + 1)), .ref (g.2.2.1 (k + 2))]) := by
  rw [zCell_k h]
  show zRend g (u0, W0) k 10 = _
  unfold zRend
  simp only [u0_10 h]
  all_goals rfl
theorem zc0_11 {g : GE} {k : Nat} (h : zkd k = 11) : zCell g (u0, W0) k = .inr (8, [.int 0, .ref (g.2.2.1 (k + 1))]) := by
  rw [zCell_k h]
  show zRend g (u0, W0) k 11 = _
  unfold zRend
  simp only [u0_11 h]
  all_goals rfl
theorem zc0_12 {g : GE} {k : Nat} (h : zkd k = 12) : zCell g (u0, W0) k = .inr (3, [.int 0, .ref (g.2.2.1 (k + 1)), .ref (g.2.2.1 (k + 2)), .ref (g.2.2.1 (k + 3)), .int 0]) := by
  rw [zCell_k h]
  show zRend g (u0, W0) k 12 = _
  unfold zRend
  simp only [u0_12 h]
  all_goals rfl
theorem zc0_13 {g : GE} {k : Nat} (h : zkd k = 13) : zCell g (u0, W0) k = .inr (4, [.int 0, .int 0, .int 0, .int 0]) := by
  rw [zCell_k h]
  show zRend g (u0, W0) k 13 = _
  unfold zRend
  simp only [u0_13 h]
  all_goals rfl
theorem zc0_5 {g : GE} {k n : Nat} (h : zkd k = 5) (hn : zln k = n) : zCell g (u0, W0) k = .inl (g.2.1 0, n, .inl (fun _ => 0)) := by
  subst hn
  rw [zCell_k h]
  show zRend g (u0, W0) k 5 = _
  unfold zRend
  simp only [u0_5 h]
theorem zc0_6 {g : GE} {k n : Nat} (h : zkd k = 6) (hn : zln k = n) : zCell g (u0, W0) k = .inl (g.2.1 1, n, .inl (fun _ => 0)) := by
  subst hn
  rw [zCell_k h]
  show zRend g (u0, W0) k 6 = _
  unfold zRend
  simp only [u0_6 h]
theorem zc0_8 {g : GE} : zCell g (u0, W0) 26 = zSt8 g.2.1 g.2.2.1 := by rw [zCell_k kd_26]; rfl
def zLit (ca : Nat → ClassId) (a0 : Nat) (e0 : Nat → Nat) : va_W := [(zAd a0 e0 0, .inr (9, [.ref (zAd a0 e0 1), .ref (zAd a0 e0 9), .ref (zAd a0 e0 17), .int 0, .ref (zAd a0 e0 25), .ref (zAd a0 e0 91), .ref (zAd a0 e0 95), .ref (zAd a0 e0 100), .ref (zAd a0 e0 105), .ref (zAd a0 e0 108), .ref (zAd a0 e0 110), .ref (zAd a0 e0 112), .ref (zAd a0 e0 116), .int (-1), .int 0, .int 0])), (zAd a0 e0 1, .inr (6, [.ref (zAd a0 e0 2), .ref (zAd a0 e0 6), .int 0])), (zAd a0 e0 2, .inr (1, [.int 0, .int 0, .int 0, .int 1, .int 0, .ref (zAd a0 e0 3), .ref (zAd a0 e0 4), .ref (zAd a0 e0 5)])), (zAd a0 e0 3, .inl (ca 0, 16, .inl (fun _ => 0))), (zAd a0 e0 4, .inl (ca 0, 16, .inl (fun _ => 0))), (zAd a0 e0 5, .inl (ca 0, 8, .inl (fun _ => 0))), (zAd a0 e0 6, .inr (2, [.int 0, .int 0, .ref (zAd a0 e0 7), .ref (zAd a0 e0 8)])), (zAd a0 e0 7, .inl (ca 0, 41, .inl (fun _ => 0))), (zAd a0 e0 8, .inl (ca 0, 40, .inl (fun _ => 0))), (zAd a0 e0 9, .inr (6, [.ref (zAd a0 e0 10), .ref (zAd a0 e0 14), .int 0])), (zAd a0 e0 10, .inr (1, [.int 0, .int 0, .int 0, .int 1, .int 0, .ref (zAd a0 e0 11), .ref (zAd a0 e0 12), .ref (zAd a0 e0 13)])), (zAd a0 e0 11, .inl (ca 0, 16, .inl (fun _ => 0))), (zAd a0 e0 12, .inl (ca 0, 16, .inl (fun _ => 0))), (zAd a0 e0 13, .inl (ca 0, 8, .inl (fun _ => 0))), (zAd a0 e0 14, .inr (2, [.int 0, .int 0, .ref (zAd a0 e0 15), .ref (zAd a0 e0 16)])), (zAd a0 e0 15, .inl (ca 0, 41, .inl (fun _ => 0))), (zAd a0 e0 16, .inl (ca 0, 40, .inl (fun _ => 0))), (zAd a0 e0 17, .inr (6, [.ref (zAd a0 e0 18), .ref (zAd a0 e0 22), .int 0])), (zAd a0 e0 18, .inr (1, [.int 0, .int 0, .int 0, .int 1, .int 0, .ref (zAd a0 e0 19), .ref (zAd a0 e0 20), .ref (zAd a0 e0 21)])), (zAd a0 e0 19, .inl (ca 0, 16, .inl (fun _ => 0))), (zAd a0 e0 20, .inl (ca 0, 16, .inl (fun _ => 0))), (zAd a0 e0 21, .inl (ca 0, 8, .inl (fun _ => 0))), (zAd a0 e0 22, .inr (2, [.int 0, .int 0, .ref (zAd a0 e0 23), .ref (zAd a0 e0 24)])), (zAd a0 e0 23, .inl (ca 0, 41, .inl (fun _ => 0))), (zAd a0 e0 24, .inl (ca 0, 40, .inl (fun _ => 0))), (zAd a0 e0 25, .inr (0, [.ref (zAd a0 e0 26), .int 0, .int 0])), (zAd a0 e0 26, zSt8 ca (zAd a0 e0)), (zAd a0 e0 27, .inr (6, [.ref (zAd a0 e0 28), .ref (zAd a0 e0 32), .int 0])), (zAd a0 e0 28, .inr (1, [.int 0, .int 0, .int 0, .int 1, .int 0, .ref (zAd a0 e0 29), .ref (zAd a0 e0 30), .ref (zAd a0 e0 31)])), (zAd a0 e0 29, .inl (ca 0, 16, .inl (fun _ => 0))), (zAd a0 e0 30, .inl (ca 0, 16, .inl (fun _ => 0))), (zAd a0 e0 31, .inl (ca 0, 8, .inl (fun _ => 0))), (zAd a0 e0 32, .inr (2, [.int 0, .int 0, .ref (zAd a0 e0 33), .ref (zAd a0 e0 34)])), (zAd a0 e0 33, .inl (ca 0, 41, .inl (fun _ => 0))), (zAd a0 e0 34, .inl (ca 0, 40, .inl (fun _ => 0))), (zAd a0 e0 35, .inr (6, [.ref (zAd a0 e0 36), .ref (zAd a0 e0 40), .int 0])), (zAd a0 e0 36, .inr (1, [.int 0, .int 0, .int 0, .int 1, .int 0, .ref (zAd a0 e0 37), .ref (zAd a0 e0 38), .ref (zAd a0 e0 39)])), (zAd a0 e0 37, .inl (ca 0, 16, .inl (fun _ => 0))), (zAd a0 e0 38, .inl (ca 0, 16, .inl (fun _ => 0))), (zAd a0 e0 39, .inl (ca 0, 8, .inl (fun _ => 0))), (zAd a0 e0 40, .inr (2, [.int 0, .int 0, .ref (zAd a0 e0 41), .ref (zAd a0 e0 42)])), (zAd a0 e0 41, .inl (ca 0, 41, .inl (fun _ => 0))), (zAd a0 e0 42, .inl (ca 0, 40, .inl (fun _ => 0))), (zAd a0 e0 43, .inr (6, [.ref (zAd a0 e0 44), .ref (zAd a0 e0 48), .int 0])), (zAd a0 e0 44, .inr (1, [.int 0, .int 0, .int 0, .int 1, .int 0, .ref (zAd a0 e0 45), .ref (zAd a0 e0 46), .ref (zAd a0 e0 47)])), (zAd a0 e0 45, .inl (ca 0, 16, .inl (fun _ => 0))), (zAd a0 e0 46, .inl (ca 0, 16, .inl (fun _ => 0))), (zAd a0 e0 47, .inl (ca 0, 8, .inl (fun _ => 0))), (zAd a0 e0 48, .inr (2, [.int 0, .int 0, .ref (zAd a0 e0 49), .ref (zAd a0 e0 50)])), (zAd a0 e0 49, .inl (ca 0, 41, .inl (fun _ => 0))), (zAd a0 e0 50, .inl (ca 0, 40, .inl (fun _ => 0))), (zAd a0 e0 51, .inr (6, [.ref (zAd a0 e0 52), .ref (zAd a0 e0 56), .int 0])), (zAd a0 e0 52, .inr (1, [.int 0, .int 0, .int 0, .int 1, .int 0, .ref (zAd a0 e0 53), .ref (zAd a0 e0 54), .ref (zAd a0 e0 55)])), (zAd a0 e0 53, .inl (ca 0, 16, .inl (fun _ => 0))), (zAd a0 e0 54, .inl (ca 0, 16, .inl (fun _ => 0))), (zAd a0 e0 55, .inl (ca 0, 8, .inl (fun _ => 0))), (zAd a0 e0 56, .inr (2, [.int 0, .int 0, .ref (zAd a0 e0 57), .ref (zAd a0 e0 58)])), (zAd a0 e0 57, .inl (ca 0, 41, .inl (fun _ => 0))), (zAd a0 e0 58, .inl (ca 0, 40, .inl (fun _ => 0))), (zAd a0 e0 59, .inr (6, [.ref (zAd a0 e0 60), .ref (zAd a0 e0 64), .int 0])), (zAd a0 e0 60, .inr (1, [.int 0, .int 0, .int 0, .int 1, .int 0, .ref (zAd a0 e0 61), .ref (zAd a0 e0 62), .ref (zAd a0 e0 63)])), (zAd a0 e0 61, .inl (ca 0, 16, .inl (fun _ => 0))), (zAd a0 e0 62, .inl (ca 0, 16, .inl (fun _ => 0))), (zAd a0 e0 63, .inl (ca 0, 8, .inl (fun _ => 0))), (zAd a0 e0 64, .inr (2, [.int 0, .int 0, .ref (zAd a0 e0 65), .ref (zAd a0 e0 66)])), (zAd a0 e0 65, .inl (ca 0, 41, .inl (fun _ => 0))), (zAd a0 e0 66, .inl (ca 0, 40, .inl (fun _ => 0))), (zAd a0 e0 67, .inr (6, [.ref (zAd a0 e0 68), .ref (zAd a0 e0 72), .int 0])), (zAd a0 e0 68, .inr (1, [.int 0, .int 0, .int 0, .int 1, .int 0, .ref (zAd a0 e0 69), .ref (zAd a0 e0 70), .ref (zAd a0 e0 71)])), (zAd a0 e0 69, .inl (ca 0, 16, .inl (fun _ => 0))), (zAd a0 e0 70, .inl (ca 0, 16, .inl (fun _ => 0))), (zAd a0 e0 71, .inl (ca 0, 8, .inl (fun _ => 0))), (zAd a0 e0 72, .inr (2, [.int 0, .int 0, .ref (zAd a0 e0 73), .ref (zAd a0 e0 74)])), (zAd a0 e0 73, .inl (ca 0, 41, .inl (fun _ => 0))), (zAd a0 e0 74, .inl (ca 0, 40, .inl (fun _ => 0))), (zAd a0 e0 75, .inr (6, [.ref (zAd a0 e0 76), .ref (zAd a0 e0 80), .int 0])), (zAd a0 e0 76, .inr (1, [.int 0, .int 0, .int 0, .int 1, .int 0, .ref (zAd a0 e0 77), .ref (zAd a0 e0 78), .ref (zAd a0 e0 79)])), (zAd a0 e0 77, .inl (ca 0, 16, .inl (fun _ => 0))), (zAd a0 e0 78, .inl (ca 0, 16, .inl (fun _ => 0))), (zAd a0 e0 79, .inl (ca 0, 8, .inl (fun _ => 0))), (zAd a0 e0 80, .inr (2, [.int 0, .int 0, .ref (zAd a0 e0 81), .ref (zAd a0 e0 82)])), (zAd a0 e0 81, .inl (ca 0, 41, .inl (fun _ => 0))), (zAd a0 e0 82, .inl (ca 0, 40, .inl (fun _ => 0))), (zAd a0 e0 83, .inr (6, [.ref (zAd a0 e0 84), .ref (zAd a0 e0 88), .int 0])), (zAd a0 e0 84, .inr (1, [.int 0, .int 0, .int 0, .int 1, .int 0, .ref (zAd a0 e0 85), .ref (zAd a0 e0 86), .ref (zAd a0 e0 87)])), (zAd a0 e0 85, .inl (ca 0, 16, .inl (fun _ => 0))), (zAd a0 e0 86, .inl (ca 0, 16, .inl (fun _ => 0))), (zAd a0 e0 87, .inl (ca 0, 8, .inl (fun _ => 0))), (zAd a0 e0 88, .inr (2, [.int 0, .int 0, .ref (zAd a0 e0 89), .ref (zAd a0 e0 90)])), (zAd a0 e0 89, .inl (ca 0, 41, .inl (fun _ => 0))), (zAd a0 e0 90, .inl (ca 0, 40, .inl (fun _ => 0))), (zAd a0 e0 91, .inr (1, [.int 0, .int 0, .int 0, .int 1, .int 0, .ref (zAd a0 e0 92), .ref (zAd a0 e0 93), .ref (zAd a0 e0 94)])), (zAd a0 e0 92, .inl (ca 0, 16, .inl (fun _ => 0))), (zAd a0 e0 93, .inl (ca 0, 16, .inl (fun _ => 0))), (zAd a0 e0 94, .inl (ca 0, 8, .inl (fun _ => 0))), (zAd a0 e0 95, .inr (7, [.int 0, .int (-1), .ref (zAd a0 e0 96), .ref (zAd a0 e0 97), .ref (zAd a0 e0 98), .ref (zAd a0 e0 99)])), (zAd a0 e0 96, .inl (ca 0, 336, .inl (fun _ => 0))), (zAd a0 e0 97, .inl (ca 0, 336, .inl (fun _ => 0))), (zAd a0 e0 98, .inl (ca 0, 1296, .inl (fun _ => 0))), (zAd a0 e0 99, .inl (ca 0, 1296, .inl (fun _ => 0))), (zAd a0 e0 100, .inr (7, [.int 0, .int (-1), .ref (zAd a0 e0 101), .ref (zAd a0 e0 102), .ref (zAd a0 e0 103), .ref (zAd a0 e0 104)])), (zAd a0 e0 101, .inl (ca 0, 336, .inl (fun _ => 0))), (zAd a0 e0 102, .inl (ca 0, 336, .inl (fun _ => 0))), (zAd a0 e0 103, .inl (ca 0, 1296, .inl (fun _ => 0))), (zAd a0 e0 104, .inl (ca 0, 1296, .inl (fun _ => 0))), (zAd a0 e0 105, .inr (5, [.int (-1), .ref (zAd a0 e0 106), .ref (zAd a0 e0 107)])), (zAd a0 e0 106, .inl (ca 0, 336, .inl (fun _ => 0))), (zAd a0 e0 107, .inl (ca 0, 1296, .inl (fun _ => 0))), (zAd a0 e0 108, .inr (8, [.int 0, .ref (zAd a0 e0 109)])), (zAd a0 e0 109, .inl (ca 1, 160, .inl (fun _ => 0))), (zAd a0 e0 110, .inr (8, [.int 0, .ref (zAd a0 e0 111)])), (zAd a0 e0 111, .inl (ca 1, 160, .inl (fun _ => 0))), (zAd a0 e0 112, .inr (3, [.int 0, .ref (zAd a0 e0 113), .ref (zAd a0 e0 114), .ref (zAd a0 e0 115), .int 0])), (zAd a0 e0 113, .inl (ca 0, 30, .inl (fun _ => 0))), (zAd a0 e0 114, .inl (ca 0, 30, .inl (fun _ => 0))), (zAd a0 e0 115, .inl (ca 0, 30, .inl (fun _ => 0))), (zAd a0 e0 116, .inr (4, [.int 0, .int 0, .int 0, .int 0]))]
set_option maxRecDepth 100000 in
theorem zW_lit (g : GE) (M : Mem) : ((List.range 117).map fun k => ((g.2.2.1 k, zCell g M k) : Nat × va_E)) = [(g.2.2.1 0, zCell g M 0), (g.2.2.1 1, zCell g M 1), (g.2.2.1 2, zCell g M 2), (g.2.2.1 3, zCell g M 3), (g.2.2.1 4, zCell g M 4), (g.2.2.1 5, zCell g M 5), (g.2.2.1 6, zCell g M 6), (g.2.2.1 7, zCell g M 7), (g.2.2.1 8, zCell g M 8), (g.2.2.1 9, zCell g M 9), (g.2.2.1 10, zCell g M 10), (g.2.2.1 11, zCell g M 11), (g.2.2.1 12, zCell g M 12), (g.2.2.1 13, zCell g M 13), (g.2.2.1 14, zCell g M 14), (g.2.2.1 15, zCell g M 15), (g.2.2.1 16, zCell g M 16), (g.2.2.1 17, zCell g M 17), (g.2.2.1 18, zCell g M 18), (g.2.2.1 19, zCell g M 19), (g.2.2.1 20, zCell g M 20), (g.2.2.1 21, zCell g M 21), (g.2.2.1 22, zCell g M 22), (g.2.2.1 23, zCell g M 23), (g.2.2.1 24, zCell g M 24), (g.2.2.1 25, zCell g M 25), (g.2.2.1 26, zCell g M 26), (g.2.2.1 27, zCell g M 27), (g.2.2.1 28, zCell g M 28), (g.2.2.1 29, zCell g M 29), (g.2.2.1 30, zCell g M 30), (g.2.2.1 31, zCell g M 31), (g.2.2.1 32, zCell g M 32), (g.2.2.1 33, zCell g M 33), (g.2.2.1 34, zCell g M 34), (g.2.2.1 35, zCell g M 35), (g.2.2.1 36, zCell g M 36), (g.2.2.1 37, zCell g M 37), (g.2.2.1 38, zCell g M 38), (g.2.2.1 39, zCell g M 39), (g.2.2.1 40, zCell g M 40), (g.2.2.1 41, zCell g M 41), (g.2.2.1 42, zCell g M 42), (g.2.2.1 43, zCell g M 43), (g.2.2.1 44, zCell g M 44), (g.2.2.1 45, zCell g M 45), (g.2.2.1 46, zCell g M 46), (g.2.2.1 47, zCell g M 47), (g.2.2.1 48, zCell g M 48), (g.2.2.1 49, zCell g M 49), (g.2.2.1 50, zCell g M 50), (g.2.2.1 51, zCell g M 51), (g.2.2.1 52, zCell g M 52), (g.2.2.1 53, zCell g M 53), (g.2.2.1 54, zCell g M 54), (g.2.2.1 55, zCell g M 55), (g.2.2.1 56, zCell g M 56), (g.2.2.1 57, zCell g M 57), (g.2.2.1 58, zCell g M 58), (g.2.2.1 59, zCell g M 59), (g.2.2.1 60, zCell g M 60), (g.2.2.1 61, zCell g M 61), (g.2.2.1 62, zCell g M 62), (g.2.2.1 63, zCell g M 63), (g.2.2.1 64, zCell g M 64), (g.2.2.1 65, zCell g M 65), (g.2.2.1 66, zCell g M 66), (g.2.2.1 67, zCell g M 67), (g.2.2.1 68, zCell g M 68), (g.2.2.1 69, zCell g M 69), (g.2.2.1 70, zCell g M 70), (g.2.2.1 71, zCell g M 71), (g.2.2.1 72, zCell g M 72), (g.2.2.1 73, zCell g M 73), (g.2.2.1 74, zCell g M 74), (g.2.2.1 75, zCell g M 75), (g.2.2.1 76, zCell g M 76), (g.2.2.1 77, zCell g M 77), (g.2.2.1 78, zCell g M 78), (g.2.2.1 79, zCell g M 79), (g.2.2.1 80, zCell g M 80), (g.2.2.1 81, zCell g M 81), (g.2.2.1 82, zCell g M 82), (g.2.2.1 83, zCell g M 83), (g.2.2.1 84, zCell g M 84), (g.2.2.1 85, zCell g M 85), (g.2.2.1 86, zCell g M 86), (g.2.2.1 87, zCell g M 87), (g.2.2.1 88, zCell g M 88), (g.2.2.1 89, zCell g M 89), (g.2.2.1 90, zCell g M 90), (g.2.2.1 91, zCell g M 91), (g.2.2.1 92, zCell g M 92), (g.2.2.1 93, zCell g M 93), (g.2.2.1 94, zCell g M 94), (g.2.2.1 95, zCell g M 95), (g.2.2.1 96, zCell g M 96), (g.2.2.1 97, zCell g M 97), (g.2.2.1 98, zCell g M 98), (g.2.2.1 99, zCell g M 99), (g.2.2.1 100, zCell g M 100), (g.2.2.1 101, zCell g M 101), (g.2.2.1 102, zCell g M 102), (g.2.2.1 103, zCell g M 103), (g.2.2.1 104, zCell g M 104), (g.2.2.1 105, zCell g M 105), (g.2.2.1 106, zCell g M 106), (g.2.2.1 107, zCell g M 107), (g.2.2.1 108, zCell g M 108), (g.2.2.1 109, zCell g M 109), (g.2.2.1 110, zCell g M 110), (g.2.2.1 111, zCell g M 111), (g.2.2.1 112, zCell g M 112), (g.2.2.1 113, zCell g M 113), (g.2.2.1 114, zCell g M 114), (g.2.2.1 115, zCell g M 115), (g.2.2.1 116, zCell g M 116)] := rfl
set_option maxRecDepth 100000 in
set_option maxHeartbeats 4000000 in
theorem zW_zLit (D : va_G) (ca : Nat → ClassId) (T : GT) (a0 : Nat) (e0 : Nat → Nat) : ((List.range 117).map fun k => (((D, (ca, (zAd a0 e0, T))) : GE).2.2.1 k, zCell (D, (ca, (zAd a0 e0, T))) (u0, W0) k)) = zLit ca a0 e0 := by
  have el_0 := (show (((zAd a0 e0 0), zCell (D, (ca, (zAd a0 e0, T))) (u0, W0) 0) : Nat × va_E) = (zAd a0 e0 0, .inr (9, [.ref (zAd a0 e0 1), .ref (zAd a0 e0 9), .ref (zAd a0 e0 17), .int 0, .ref (zAd a0 e0 25), .ref (zAd a0 e0 91), .ref (zAd a0 e0 95), .ref (zAd a0 e0 100), .ref (zAd a0 e0 105), .ref (zAd a0 e0 108), .ref (zAd a0 e0 110), .ref (zAd a0 e0 112), .ref (zAd a0 e0 116), .int (-1), .int 0, .int 0])) from congrArg (Prod.mk (zAd a0 e0 0)) (zc0_1 kd_0))
  have el_1 := (show (((zAd a0 e0 1), zCell (D, (ca, (zAd a0 e0, T))) (u0, W0) 1) : Nat × va_E) = (zAd a0 e0 1, .inr (6, [.ref (zAd a0 e0 2), .ref (zAd a0 e0 6), .int 0])) from congrArg (Prod.mk (zAd a0 e0 1)) (zc0_2 kd_1))
  have el_2 := (show (((zAd a0 e0 2), zCell (D, (ca, (zAd a0 e0, T))) (u0, W0) 2) : Nat × va_E) = (zAd a0 e0 2, .inr (1, [.int 0, .int 0, .int 0, .int 1, .int 0, .ref (zAd a0 e0 3), .ref (zAd a0 e0 4), .ref (zAd a0 e0 5)])) from congrArg (Prod.mk (zAd a0 e0 2)) (zc0_3 kd_2))
  have el_3 := (show (((zAd a0 e0 3), zCell (D, (ca, (zAd a0 e0, T))) (u0, W0) 3) : Nat × va_E) = (zAd a0 e0 3, .inl (ca 0, 16, .inl (fun _ => 0))) from congrArg (Prod.mk (zAd a0 e0 3)) (zc0_5 kd_3 ln_3))
  have el_4 := (show (((zAd a0 e0 4), zCell (D, (ca, (zAd a0 e0, T))) (u0, W0) 4) : Nat × va_E) = (zAd a0 e0 4, .inl (ca 0, 16, .inl (fun _ => 0))) from congrArg (Prod.mk (zAd a0 e0 4)) (zc0_5 kd_4 ln_4))
  have el_5 := (show (((zAd a0 e0 5), zCell (D, (ca, (zAd a0 e0, T))) (u0, W0) 5) : Nat × va_E) = (zAd a0 e0 5, .inl (ca 0, 8, .inl (fun _ => 0))) from congrArg (Prod.mk (zAd a0 e0 5)) (zc0_5 kd_5 ln_5))
  have el_6 := (show (((zAd a0 e0 6), zCell (D, (ca, (zAd a0 e0, T))) (u0, W0) 6) : Nat × va_E) = (zAd a0 e0 6, .inr (2, [.int 0, .int 0, .ref (zAd a0 e0 7), .ref (zAd a0 e0 8)])) from congrArg (Prod.mk (zAd a0 e0 6)) (zc0_4 kd_6))
  have el_7 := (show (((zAd a0 e0 7), zCell (D, (ca, (zAd a0 e0, T))) (u0, W0) 7) : Nat × va_E) = (zAd a0 e0 7, .inl (ca 0, 41, .inl (fun _ => 0))) from congrArg (Prod.mk (zAd a0 e0 7)) (zc0_5 kd_7 ln_7))
  have el_8 := (show (((zAd a0 e0 8), zCell (D, (ca, (zAd a0 e0, T))) (u0, W0) 8) : Nat × va_E) = (zAd a0 e0 8, .inl (ca 0, 40, .inl (fun _ => 0))) from congrArg (Prod.mk (zAd a0 e0 8)) (zc0_5 kd_8 ln_8))
  have el_9 := (show (((zAd a0 e0 9), zCell (D, (ca, (zAd a0 e0, T))) (u0, W0) 9) : Nat × va_E) = (zAd a0 e0 9, .inr (6, [.ref (zAd a0 e0 10), .ref (zAd a0 e0 14), .int 0])) from congrArg (Prod.mk (zAd a0 e0 9)) (zc0_2 kd_9))
  have el_10 := (show (((zAd a0 e0 10), zCell (D, (ca, (zAd a0 e0, T))) (u0, W0) 10) : Nat × va_E) = (zAd a0 e0 10, .inr (1, [.int 0, .int 0, .int 0, .int 1, .int 0, .ref (zAd a0 e0 11), .ref (zAd a0 e0 12), .ref (zAd a0 e0 13)])) from congrArg (Prod.mk (zAd a0 e0 10)) (zc0_3 kd_10))
  have el_11 := (show (((zAd a0 e0 11), zCell (D, (ca, (zAd a0 e0, T))) (u0, W0) 11) : Nat × va_E) = (zAd a0 e0 11, .inl (ca 0, 16, .inl (fun _ => 0))) from congrArg (Prod.mk (zAd a0 e0 11)) (zc0_5 kd_11 ln_11))
  have el_12 := (show (((zAd a0 e0 12), zCell (D, (ca, (zAd a0 e0, T))) (u0, W0) 12) : Nat × va_E) = (zAd a0 e0 12, .inl (ca 0, 16, .inl (fun _ => 0))) from congrArg (Prod.mk (zAd a0 e0 12)) (zc0_5 kd_12 ln_12))
  have el_13 := (show (((zAd a0 e0 13), zCell (D, (ca, (zAd a0 e0, T))) (u0, W0) 13) : Nat × va_E) = (zAd a0 e0 13, .inl (ca 0, 8, .inl (fun _ => 0))) from congrArg (Prod.mk (zAd a0 e0 13)) (zc0_5 kd_13 ln_13))
  have el_14 := (show (((zAd a0 e0 14), zCell (D, (ca, (zAd a0 e0, T))) (u0, W0) 14) : Nat × va_E) = (zAd a0 e0 14, .inr (2, [.int 0, .int 0, .ref (zAd a0 e0 15), .ref (zAd a0 e0 16)])) from congrArg (Prod.mk (zAd a0 e0 14)) (zc0_4 kd_14))
  have el_15 := (show (((zAd a0 e0 15), zCell (D, (ca, (zAd a0 e0, T))) (u0, W0) 15) : Nat × va_E) = (zAd a0 e0 15, .inl (ca 0, 41, .inl (fun _ => 0))) from congrArg (Prod.mk (zAd a0 e0 15)) (zc0_5 kd_15 ln_15))
  have el_16 := (show (((zAd a0 e0 16), zCell (D, (ca, (zAd a0 e0, T))) (u0, W0) 16) : Nat × va_E) = (zAd a0 e0 16, .inl (ca 0, 40, .inl (fun _ => 0))) from congrArg (Prod.mk (zAd a0 e0 16)) (zc0_5 kd_16 ln_16))
  have el_17 := (show (((zAd a0 e0 17), zCell (D, (ca, (zAd a0 e0, T))) (u0, W0) 17) : Nat × va_E) = (zAd a0 e0 17, .inr (6, [.ref (zAd a0 e0 18), .ref (zAd a0 e0 22), .int 0])) from congrArg (Prod.mk (zAd a0 e0 17)) (zc0_2 kd_17))
  have el_18 := (show (((zAd a0 e0 18), zCell (D, (ca, (zAd a0 e0, T))) (u0, W0) 18) : Nat × va_E) = (zAd a0 e0 18, .inr (1, [.int 0, .int 0, .int 0, .int 1, .int 0, .ref (zAd a0 e0 19), .ref (zAd a0 e0 20), .ref (zAd a0 e0 21)])) from congrArg (Prod.mk (zAd a0 e0 18)) (zc0_3 kd_18))
  have el_19 := (show (((zAd a0 e0 19), zCell (D, (ca, (zAd a0 e0, T))) (u0, W0) 19) : Nat × va_E) = (zAd a0 e0 19, .inl (ca 0, 16, .inl (fun _ => 0))) from congrArg (Prod.mk (zAd a0 e0 19)) (zc0_5 kd_19 ln_19))
  have el_20 := (show (((zAd a0 e0 20), zCell (D, (ca, (zAd a0 e0, T))) (u0, W0) 20) : Nat × va_E) = (zAd a0 e0 20, .inl (ca 0, 16, .inl (fun _ => 0))) from congrArg (Prod.mk (zAd a0 e0 20)) (zc0_5 kd_20 ln_20))
  have el_21 := (show (((zAd a0 e0 21), zCell (D, (ca, (zAd a0 e0, T))) (u0, W0) 21) : Nat × va_E) = (zAd a0 e0 21, .inl (ca 0, 8, .inl (fun _ => 0))) from congrArg (Prod.mk (zAd a0 e0 21)) (zc0_5 kd_21 ln_21))
  have el_22 := (show (((zAd a0 e0 22), zCell (D, (ca, (zAd a0 e0, T))) (u0, W0) 22) : Nat × va_E) = (zAd a0 e0 22, .inr (2, [.int 0, .int 0, .ref (zAd a0 e0 23), .ref (zAd a0 e0 24)])) from congrArg (Prod.mk (zAd a0 e0 22)) (zc0_4 kd_22))
  have el_23 := (show (((zAd a0 e0 23), zCell (D, (ca, (zAd a0 e0, T))) (u0, W0) 23) : Nat × va_E) = (zAd a0 e0 23, .inl (ca 0, 41, .inl (fun _ => 0))) from congrArg (Prod.mk (zAd a0 e0 23)) (zc0_5 kd_23 ln_23))
  have el_24 := (show (((zAd a0 e0 24), zCell (D, (ca, (zAd a0 e0, T))) (u0, W0) 24) : Nat × va_E) = (zAd a0 e0 24, .inl (ca 0, 40, .inl (fun _ => 0))) from congrArg (Prod.mk (zAd a0 e0 24)) (zc0_5 kd_24 ln_24))
  have el_25 := (show (((zAd a0 e0 25), zCell (D, (ca, (zAd a0 e0, T))) (u0, W0) 25) : Nat × va_E) = (zAd a0 e0 25, .inr (0, [.ref (zAd a0 e0 26), .int 0, .int 0])) from congrArg (Prod.mk (zAd a0 e0 25)) (zc0_7 kd_25))
  have el_26 := (show (((zAd a0 e0 26), zCell (D, (ca, (zAd a0 e0, T))) (u0, W0) 26) : Nat × va_E) = (zAd a0 e0 26, zSt8 ca (zAd a0 e0)) from congrArg (Prod.mk (zAd a0 e0 26)) (zc0_8))
  have el_27 := (show (((zAd a0 e0 27), zCell (D, (ca, (zAd a0 e0, T))) (u0, W0) 27) : Nat × va_E) = (zAd a0 e0 27, .inr (6, [.ref (zAd a0 e0 28), .ref (zAd a0 e0 32), .int 0])) from congrArg (Prod.mk (zAd a0 e0 27)) (zc0_2 kd_27))
  have el_28 := (show (((zAd a0 e0 28), zCell (D, (ca, (zAd a0 e0, T))) (u0, W0) 28) : Nat × va_E) = (zAd a0 e0 28, .inr (1, [.int 0, .int 0, .int 0, .int 1, .int 0, .ref (zAd a0 e0 29), .ref (zAd a0 e0 30), .ref (zAd a0 e0 31)])) from congrArg (Prod.mk (zAd a0 e0 28)) (zc0_3 kd_28))
  have el_29 := (show (((zAd a0 e0 29), zCell (D, (ca, (zAd a0 e0, T))) (u0, W0) 29) : Nat × va_E) = (zAd a0 e0 29, .inl (ca 0, 16, .inl (fun _ => 0))) from congrArg (Prod.mk (zAd a0 e0 29)) (zc0_5 kd_29 ln_29))
  have el_30 := (show (((zAd a0 e0 30), zCell (D, (ca, (zAd a0 e0, T))) (u0, W0) 30) : Nat × va_E) = (zAd a0 e0 30, .inl (ca 0, 16, .inl (fun _ => 0))) from congrArg (Prod.mk (zAd a0 e0 30)) (zc0_5 kd_30 ln_30))
  have el_31 := (show (((zAd a0 e0 31), zCell (D, (ca, (zAd a0 e0, T))) (u0, W0) 31) : Nat × va_E) = (zAd a0 e0 31, .inl (ca 0, 8, .inl (fun _ => 0))) from congrArg (Prod.mk (zAd a0 e0 31)) (zc0_5 kd_31 ln_31))
  have el_32 := (show (((zAd a0 e0 32), zCell (D, (ca, (zAd a0 e0, T))) (u0, W0) 32) : Nat × va_E) = (zAd a0 e0 32, .inr (2, [.int 0, .int 0, .ref (zAd a0 e0 33), .ref (zAd a0 e0 34)])) from congrArg (Prod.mk (zAd a0 e0 32)) (zc0_4 kd_32))
  have el_33 := (show (((zAd a0 e0 33), zCell (D, (ca, (zAd a0 e0, T))) (u0, W0) 33) : Nat × va_E) = (zAd a0 e0 33, .inl (ca 0, 41, .inl (fun _ => 0))) from congrArg (Prod.mk (zAd a0 e0 33)) (zc0_5 kd_33 ln_33))
  have el_34 := (show (((zAd a0 e0 34), zCell (D, (ca, (zAd a0 e0, T))) (u0, W0) 34) : Nat × va_E) = (zAd a0 e0 34, .inl (ca 0, 40, .inl (fun _ => 0))) from congrArg (Prod.mk (zAd a0 e0 34)) (zc0_5 kd_34 ln_34))
  have el_35 := (show (((zAd a0 e0 35), zCell (D, (ca, (zAd a0 e0, T))) (u0, W0) 35) : Nat × va_E) = (zAd a0 e0 35, .inr (6, [.ref (zAd a0 e0 36), .ref (zAd a0 e0 40), .int 0])) from congrArg (Prod.mk (zAd a0 e0 35)) (zc0_2 kd_35))
  have el_36 := (show (((zAd a0 e0 36), zCell (D, (ca, (zAd a0 e0, T))) (u0, W0) 36) : Nat × va_E) = (zAd a0 e0 36, .inr (1, [.int 0, .int 0, .int 0, .int 1, .int 0, .ref (zAd a0 e0 37), .ref (zAd a0 e0 38), .ref (zAd a0 e0 39)])) from congrArg (Prod.mk (zAd a0 e0 36)) (zc0_3 kd_36))
  have el_37 := (show (((zAd a0 e0 37), zCell (D, (ca, (zAd a0 e0, T))) (u0, W0) 37) : Nat × va_E) = (zAd a0 e0 37, .inl (ca 0, 16, .inl (fun _ => 0))) from congrArg (Prod.mk (zAd a0 e0 37)) (zc0_5 kd_37 ln_37))
  have el_38 := (show (((zAd a0 e0 38), zCell (D, (ca, (zAd a0 e0, T))) (u0, W0) 38) : Nat × va_E) = (zAd a0 e0 38, .inl (ca 0, 16, .inl (fun _ => 0))) from congrArg (Prod.mk (zAd a0 e0 38)) (zc0_5 kd_38 ln_38))
  have el_39 := (show (((zAd a0 e0 39), zCell (D, (ca, (zAd a0 e0, T))) (u0, W0) 39) : Nat × va_E) = (zAd a0 e0 39, .inl (ca 0, 8, .inl (fun _ => 0))) from congrArg (Prod.mk (zAd a0 e0 39)) (zc0_5 kd_39 ln_39))
  have el_40 := (show (((zAd a0 e0 40), zCell (D, (ca, (zAd a0 e0, T))) (u0, W0) 40) : Nat × va_E) = (zAd a0 e0 40, .inr (2, [.int 0, .int 0, .ref (zAd a0 e0 41), .ref (zAd a0 e0 42)])) from congrArg (Prod.mk (zAd a0 e0 40)) (zc0_4 kd_40))
  have el_41 := (show (((zAd a0 e0 41), zCell (D, (ca, (zAd a0 e0, T))) (u0, W0) 41) : Nat × va_E) = (zAd a0 e0 41, .inl (ca 0, 41, .inl (fun _ => 0))) from congrArg (Prod.mk (zAd a0 e0 41)) (zc0_5 kd_41 ln_41))
  have el_42 := (show (((zAd a0 e0 42), zCell (D, (ca, (zAd a0 e0, T))) (u0, W0) 42) : Nat × va_E) = (zAd a0 e0 42, .inl (ca 0, 40, .inl (fun _ => 0))) from congrArg (Prod.mk (zAd a0 e0 42)) (zc0_5 kd_42 ln_42))
  have el_43 := (show (((zAd a0 e0 43), zCell (D, (ca, (zAd a0 e0, T))) (u0, W0) 43) : Nat × va_E) = (zAd a0 e0 43, .inr (6, [.ref (zAd a0 e0 44), .ref (zAd a0 e0 48), .int 0])) from congrArg (Prod.mk (zAd a0 e0 43)) (zc0_2 kd_43))
  have el_44 := (show (((zAd a0 e0 44), zCell (D, (ca, (zAd a0 e0, T))) (u0, W0) 44) : Nat × va_E) = (zAd a0 e0 44, .inr (1, [.int 0, .int 0, .int 0, .int 1, .int 0, .ref (zAd a0 e0 45), .ref (zAd a0 e0 46), .ref (zAd a0 e0 47)])) from congrArg (Prod.mk (zAd a0 e0 44)) (zc0_3 kd_44))
  have el_45 := (show (((zAd a0 e0 45), zCell (D, (ca, (zAd a0 e0, T))) (u0, W0) 45) : Nat × va_E) = (zAd a0 e0 45, .inl (ca 0, 16, .inl (fun _ => 0))) from congrArg (Prod.mk (zAd a0 e0 45)) (zc0_5 kd_45 ln_45))
  have el_46 := (show (((zAd a0 e0 46), zCell (D, (ca, (zAd a0 e0, T))) (u0, W0) 46) : Nat × va_E) = (zAd a0 e0 46, .inl (ca 0, 16, .inl (fun _ => 0))) from congrArg (Prod.mk (zAd a0 e0 46)) (zc0_5 kd_46 ln_46))
  have el_47 := (show (((zAd a0 e0 47), zCell (D, (ca, (zAd a0 e0, T))) (u0, W0) 47) : Nat × va_E) = (zAd a0 e0 47, .inl (ca 0, 8, .inl (fun _ => 0))) from congrArg (Prod.mk (zAd a0 e0 47)) (zc0_5 kd_47 ln_47))
  have el_48 := (show (((zAd a0 e0 48), zCell (D, (ca, (zAd a0 e0, T))) (u0, W0) 48) : Nat × va_E) = (zAd a0 e0 48, .inr (2, [.int 0, .int 0, .ref (zAd a0 e0 49), .ref (zAd a0 e0 50)])) from congrArg (Prod.mk (zAd a0 e0 48)) (zc0_4 kd_48))
  have el_49 := (show (((zAd a0 e0 49), zCell (D, (ca, (zAd a0 e0, T))) (u0, W0) 49) : Nat × va_E) = (zAd a0 e0 49, .inl (ca 0, 41, .inl (fun _ => 0))) from congrArg (Prod.mk (zAd a0 e0 49)) (zc0_5 kd_49 ln_49))
  have el_50 := (show (((zAd a0 e0 50), zCell (D, (ca, (zAd a0 e0, T))) (u0, W0) 50) : Nat × va_E) = (zAd a0 e0 50, .inl (ca 0, 40, .inl (fun _ => 0))) from congrArg (Prod.mk (zAd a0 e0 50)) (zc0_5 kd_50 ln_50))
  have el_51 := (show (((zAd a0 e0 51), zCell (D, (ca, (zAd a0 e0, T))) (u0, W0) 51) : Nat × va_E) = (zAd a0 e0 51, .inr (6, [.ref (zAd a0 e0 52), .ref (zAd a0 e0 56), .int 0])) from congrArg (Prod.mk (zAd a0 e0 51)) (zc0_2 kd_51))
  have el_52 := (show (((zAd a0 e0 52), zCell (D, (ca, (zAd a0 e0, T))) (u0, W0) 52) : Nat × va_E) = (zAd a0 e0 52, .inr (1, [.int 0, .int 0, .int 0, .int 1, .int 0, .ref (zAd a0 e0 53), .ref (zAd a0 e0 54), .ref (zAd a0 e0 55)])) from congrArg (Prod.mk (zAd a0 e0 52)) (zc0_3 kd_52))
  have el_53 := (show (((zAd a0 e0 53), zCell (D, (ca, (zAd a0 e0, T))) (u0, W0) 53) : Nat × va_E) = (zAd a0 e0 53, .inl (ca 0, 16, .inl (fun _ => 0))) from congrArg (Prod.mk (zAd a0 e0 53)) (zc0_5 kd_53 ln_53))
  have el_54 := (show (((zAd a0 e0 54), zCell (D, (ca, (zAd a0 e0, T))) (u0, W0) 54) : Nat × va_E) = (zAd a0 e0 54, .inl (ca 0, 16, .inl (fun _ => 0))) from congrArg (Prod.mk (zAd a0 e0 54)) (zc0_5 kd_54 ln_54))
  have el_55 := (show (((zAd a0 e0 55), zCell (D, (ca, (zAd a0 e0, T))) (u0, W0) 55) : Nat × va_E) = (zAd a0 e0 55, .inl (ca 0, 8, .inl (fun _ => 0))) from congrArg (Prod.mk (zAd a0 e0 55)) (zc0_5 kd_55 ln_55))
  have el_56 := (show (((zAd a0 e0 56), zCell (D, (ca, (zAd a0 e0, T))) (u0, W0) 56) : Nat × va_E) = (zAd a0 e0 56, .inr (2, [.int 0, .int 0, .ref (zAd a0 e0 57), .ref (zAd a0 e0 58)])) from congrArg (Prod.mk (zAd a0 e0 56)) (zc0_4 kd_56))
  have el_57 := (show (((zAd a0 e0 57), zCell (D, (ca, (zAd a0 e0, T))) (u0, W0) 57) : Nat × va_E) = (zAd a0 e0 57, .inl (ca 0, 41, .inl (fun _ => 0))) from congrArg (Prod.mk (zAd a0 e0 57)) (zc0_5 kd_57 ln_57))
  have el_58 := (show (((zAd a0 e0 58), zCell (D, (ca, (zAd a0 e0, T))) (u0, W0) 58) : Nat × va_E) = (zAd a0 e0 58, .inl (ca 0, 40, .inl (fun _ => 0))) from congrArg (Prod.mk (zAd a0 e0 58)) (zc0_5 kd_58 ln_58))
  have el_59 := (show (((zAd a0 e0 59), zCell (D, (ca, (zAd a0 e0, T))) (u0, W0) 59) : Nat × va_E) = (zAd a0 e0 59, .inr (6, [.ref (zAd a0 e0 60), .ref (zAd a0 e0 64), .int 0])) from congrArg (Prod.mk (zAd a0 e0 59)) (zc0_2 kd_59))
  have el_60 := (show (((zAd a0 e0 60), zCell (D, (ca, (zAd a0 e0, T))) (u0, W0) 60) : Nat × va_E) = (zAd a0 e0 60, .inr (1, [.int 0, .int 0, .int 0, .int 1, .int 0, .ref (zAd a0 e0 61), .ref (zAd a0 e0 62), .ref (zAd a0 e0 63)])) from congrArg (Prod.mk (zAd a0 e0 60)) (zc0_3 kd_60))
  have el_61 := (show (((zAd a0 e0 61), zCell (D, (ca, (zAd a0 e0, T))) (u0, W0) 61) : Nat × va_E) = (zAd a0 e0 61, .inl (ca 0, 16, .inl (fun _ => 0))) from congrArg (Prod.mk (zAd a0 e0 61)) (zc0_5 kd_61 ln_61))
  have el_62 := (show (((zAd a0 e0 62), zCell (D, (ca, (zAd a0 e0, T))) (u0, W0) 62) : Nat × va_E) = (zAd a0 e0 62, .inl (ca 0, 16, .inl (fun _ => 0))) from congrArg (Prod.mk (zAd a0 e0 62)) (zc0_5 kd_62 ln_62))
  have el_63 := (show (((zAd a0 e0 63), zCell (D, (ca, (zAd a0 e0, T))) (u0, W0) 63) : Nat × va_E) = (zAd a0 e0 63, .inl (ca 0, 8, .inl (fun _ => 0))) from congrArg (Prod.mk (zAd a0 e0 63)) (zc0_5 kd_63 ln_63))
  have el_64 := (show (((zAd a0 e0 64), zCell (D, (ca, (zAd a0 e0, T))) (u0, W0) 64) : Nat × va_E) = (zAd a0 e0 64, .inr (2, [.int 0, .int 0, .ref (zAd a0 e0 65), .ref (zAd a0 e0 66)])) from congrArg (Prod.mk (zAd a0 e0 64)) (zc0_4 kd_64))
  have el_65 := (show (((zAd a0 e0 65), zCell (D, (ca, (zAd a0 e0, T))) (u0, W0) 65) : Nat × va_E) = (zAd a0 e0 65, .inl (ca 0, 41, .inl (fun _ => 0))) from congrArg (Prod.mk (zAd a0 e0 65)) (zc0_5 kd_65 ln_65))
  have el_66 := (show (((zAd a0 e0 66), zCell (D, (ca, (zAd a0 e0, T))) (u0, W0) 66) : Nat × va_E) = (zAd a0 e0 66, .inl (ca 0, 40, .inl (fun _ => 0))) from congrArg (Prod.mk (zAd a0 e0 66)) (zc0_5 kd_66 ln_66))
  have el_67 := (show (((zAd a0 e0 67), zCell (D, (ca, (zAd a0 e0, T))) (u0, W0) 67) : Nat × va_E) = (zAd a0 e0 67, .inr (6, [.ref (zAd a0 e0 68), .ref (zAd a0 e0 72), .int 0])) from congrArg (Prod.mk (zAd a0 e0 67)) (zc0_2 kd_67))
  have el_68 := (show (((zAd a0 e0 68), zCell (D, (ca, (zAd a0 e0, T))) (u0, W0) 68) : Nat × va_E) = (zAd a0 e0 68, .inr (1, [.int 0, .int 0, .int 0, .int 1, .int 0, .ref (zAd a0 e0 69), .ref (zAd a0 e0 70), .ref (zAd a0 e0 71)])) from congrArg (Prod.mk (zAd a0 e0 68)) (zc0_3 kd_68))
  have el_69 := (show (((zAd a0 e0 69), zCell (D, (ca, (zAd a0 e0, T))) (u0, W0) 69) : Nat × va_E) = (zAd a0 e0 69, .inl (ca 0, 16, .inl (fun _ => 0))) from congrArg (Prod.mk (zAd a0 e0 69)) (zc0_5 kd_69 ln_69))
  have el_70 := (show (((zAd a0 e0 70), zCell (D, (ca, (zAd a0 e0, T))) (u0, W0) 70) : Nat × va_E) = (zAd a0 e0 70, .inl (ca 0, 16, .inl (fun _ => 0))) from congrArg (Prod.mk (zAd a0 e0 70)) (zc0_5 kd_70 ln_70))
  have el_71 := (show (((zAd a0 e0 71), zCell (D, (ca, (zAd a0 e0, T))) (u0, W0) 71) : Nat × va_E) = (zAd a0 e0 71, .inl (ca 0, 8, .inl (fun _ => 0))) from congrArg (Prod.mk (zAd a0 e0 71)) (zc0_5 kd_71 ln_71))
  have el_72 := (show (((zAd a0 e0 72), zCell (D, (ca, (zAd a0 e0, T))) (u0, W0) 72) : Nat × va_E) = (zAd a0 e0 72, .inr (2, [.int 0, .int 0, .ref (zAd a0 e0 73), .ref (zAd a0 e0 74)])) from congrArg (Prod.mk (zAd a0 e0 72)) (zc0_4 kd_72))
  have el_73 := (show (((zAd a0 e0 73), zCell (D, (ca, (zAd a0 e0, T))) (u0, W0) 73) : Nat × va_E) = (zAd a0 e0 73, .inl (ca 0, 41, .inl (fun _ => 0))) from congrArg (Prod.mk (zAd a0 e0 73)) (zc0_5 kd_73 ln_73))
  have el_74 := (show (((zAd a0 e0 74), zCell (D, (ca, (zAd a0 e0, T))) (u0, W0) 74) : Nat × va_E) = (zAd a0 e0 74, .inl (ca 0, 40, .inl (fun _ => 0))) from congrArg (Prod.mk (zAd a0 e0 74)) (zc0_5 kd_74 ln_74))
  have el_75 := (show (((zAd a0 e0 75), zCell (D, (ca, (zAd a0 e0, T))) (u0, W0) 75) : Nat × va_E) = (zAd a0 e0 75, .inr (6, [.ref (zAd a0 e0 76), .ref (zAd a0 e0 80), .int 0])) from congrArg (Prod.mk (zAd a0 e0 75)) (zc0_2 kd_75))
  have el_76 := (show (((zAd a0 e0 76), zCell (D, (ca, (zAd a0 e0, T))) (u0, W0) 76) : Nat × va_E) = (zAd a0 e0 76, .inr (1, [.int 0, .int 0, .int 0, .int 1, .int 0, .ref (zAd a0 e0 77), .ref (zAd a0 e0 78), .ref (zAd a0 e0 79)])) from congrArg (Prod.mk (zAd a0 e0 76)) (zc0_3 kd_76))
  have el_77 := (show (((zAd a0 e0 77), zCell (D, (ca, (zAd a0 e0, T))) (u0, W0) 77) : Nat × va_E) = (zAd a0 e0 77, .inl (ca 0, 16, .inl (fun _ => 0))) from congrArg (Prod.mk (zAd a0 e0 77)) (zc0_5 kd_77 ln_77))
  have el_78 := (show (((zAd a0 e0 78), zCell (D, (ca, (zAd a0 e0, T))) (u0, W0) 78) : Nat × va_E) = (zAd a0 e0 78, .inl (ca 0, 16, .inl (fun _ => 0))) from congrArg (Prod.mk (zAd a0 e0 78)) (zc0_5 kd_78 ln_78))
  have el_79 := (show (((zAd a0 e0 79), zCell (D, (ca, (zAd a0 e0, T))) (u0, W0) 79) : Nat × va_E) = (zAd a0 e0 79, .inl (ca 0, 8, .inl (fun _ => 0))) from congrArg (Prod.mk (zAd a0 e0 79)) (zc0_5 kd_79 ln_79))
  have el_80 := (show (((zAd a0 e0 80), zCell (D, (ca, (zAd a0 e0, T))) (u0, W0) 80) : Nat × va_E) = (zAd a0 e0 80, .inr (2, [.int 0, .int 0, .ref (zAd a0 e0 81), .ref (zAd a0 e0 82)])) from congrArg (Prod.mk (zAd a0 e0 80)) (zc0_4 kd_80))
  have el_81 := (show (((zAd a0 e0 81), zCell (D, (ca, (zAd a0 e0, T))) (u0, W0) 81) : Nat × va_E) = (zAd a0 e0 81, .inl (ca 0, 41, .inl (fun _ => 0))) from congrArg (Prod.mk (zAd a0 e0 81)) (zc0_5 kd_81 ln_81))
  have el_82 := (show (((zAd a0 e0 82), zCell (D, (ca, (zAd a0 e0, T))) (u0, W0) 82) : Nat × va_E) = (zAd a0 e0 82, .inl (ca 0, 40, .inl (fun _ => 0))) from congrArg (Prod.mk (zAd a0 e0 82)) (zc0_5 kd_82 ln_82))
  have el_83 := (show (((zAd a0 e0 83), zCell (D, (ca, (zAd a0 e0, T))) (u0, W0) 83) : Nat × va_E) = (zAd a0 e0 83, .inr (6, [.ref (zAd a0 e0 84), .ref (zAd a0 e0 88), .int 0])) from congrArg (Prod.mk (zAd a0 e0 83)) (zc0_2 kd_83))
  have el_84 := (show (((zAd a0 e0 84), zCell (D, (ca, (zAd a0 e0, T))) (u0, W0) 84) : Nat × va_E) = (zAd a0 e0 84, .inr (1, [.int 0, .int 0, .int 0, .int 1, .int 0, .ref (zAd a0 e0 85), .ref (zAd a0 e0 86), .ref (zAd a0 e0 87)])) from congrArg (Prod.mk (zAd a0 e0 84)) (zc0_3 kd_84))
  have el_85 := (show (((zAd a0 e0 85), zCell (D, (ca, (zAd a0 e0, T))) (u0, W0) 85) : Nat × va_E) = (zAd a0 e0 85, .inl (ca 0, 16, .inl (fun _ => 0))) from congrArg (Prod.mk (zAd a0 e0 85)) (zc0_5 kd_85 ln_85))
  have el_86 := (show (((zAd a0 e0 86), zCell (D, (ca, (zAd a0 e0, T))) (u0, W0) 86) : Nat × va_E) = (zAd a0 e0 86, .inl (ca 0, 16, .inl (fun _ => 0))) from congrArg (Prod.mk (zAd a0 e0 86)) (zc0_5 kd_86 ln_86))
  have el_87 := (show (((zAd a0 e0 87), zCell (D, (ca, (zAd a0 e0, T))) (u0, W0) 87) : Nat × va_E) = (zAd a0 e0 87, .inl (ca 0, 8, .inl (fun _ => 0))) from congrArg (Prod.mk (zAd a0 e0 87)) (zc0_5 kd_87 ln_87))
  have el_88 := (show (((zAd a0 e0 88), zCell (D, (ca, (zAd a0 e0, T))) (u0, W0) 88) : Nat × va_E) = (zAd a0 e0 88, .inr (2, [.int 0, .int 0, .ref (zAd a0 e0 89), .ref (zAd a0 e0 90)])) from congrArg (Prod.mk (zAd a0 e0 88)) (zc0_4 kd_88))
  have el_89 := (show (((zAd a0 e0 89), zCell (D, (ca, (zAd a0 e0, T))) (u0, W0) 89) : Nat × va_E) = (zAd a0 e0 89, .inl (ca 0, 41, .inl (fun _ => 0))) from congrArg (Prod.mk (zAd a0 e0 89)) (zc0_5 kd_89 ln_89))
  have el_90 := (show (((zAd a0 e0 90), zCell (D, (ca, (zAd a0 e0, T))) (u0, W0) 90) : Nat × va_E) = (zAd a0 e0 90, .inl (ca 0, 40, .inl (fun _ => 0))) from congrArg (Prod.mk (zAd a0 e0 90)) (zc0_5 kd_90 ln_90))
  have el_91 := (show (((zAd a0 e0 91), zCell (D, (ca, (zAd a0 e0, T))) (u0, W0) 91) : Nat × va_E) = (zAd a0 e0 91, .inr (1, [.int 0, .int 0, .int 0, .int 1, .int 0, .ref (zAd a0 e0 92), .ref (zAd a0 e0 93), .ref (zAd a0 e0 94)])) from congrArg (Prod.mk (zAd a0 e0 91)) (zc0_3 kd_91))
  have el_92 := (show (((zAd a0 e0 92), zCell (D, (ca, (zAd a0 e0, T))) (u0, W0) 92) : Nat × va_E) = (zAd a0 e0 92, .inl (ca 0, 16, .inl (fun _ => 0))) from congrArg (Prod.mk (zAd a0 e0 92)) (zc0_5 kd_92 ln_92))
  have el_93 := (show (((zAd a0 e0 93), zCell (D, (ca, (zAd a0 e0, T))) (u0, W0) 93) : Nat × va_E) = (zAd a0 e0 93, .inl (ca 0, 16, .inl (fun _ => 0))) from congrArg (Prod.mk (zAd a0 e0 93)) (zc0_5 kd_93 ln_93))
  have el_94 := (show (((zAd a0 e0 94), zCell (D, (ca, (zAd a0 e0, T))) (u0, W0) 94) : Nat × va_E) = (zAd a0 e0 94, .inl (ca 0, 8, .inl (fun _ => 0))) from congrArg (Prod.mk (zAd a0 e0 94)) (zc0_5 kd_94 ln_94))
  have el_95 := (show (((zAd a0 e0 95), zCell (D, (ca, (zAd a0 e0, T))) (u0, W0) 95) : Nat × va_E) = (zAd a0 e0 95, .inr (7, [.int 0, .int (-1), .ref (zAd a0 e0 96), .ref (zAd a0 e0 97), .ref (zAd a0 e0 98), .ref (zAd a0 e0 99)])) from congrArg (Prod.mk (zAd a0 e0 95)) (zc0_9 kd_95))
  have el_96 := (show (((zAd a0 e0 96), zCell (D, (ca, (zAd a0 e0, T))) (u0, W0) 96) : Nat × va_E) = (zAd a0 e0 96, .inl (ca 0, 336, .inl (fun _ => 0))) from congrArg (Prod.mk (zAd a0 e0 96)) (zc0_5 kd_96 ln_96))
  have el_97 := (show (((zAd a0 e0 97), zCell (D, (ca, (zAd a0 e0, T))) (u0, W0) 97) : Nat × va_E) = (zAd a0 e0 97, .inl (ca 0, 336, .inl (fun _ => 0))) from congrArg (Prod.mk (zAd a0 e0 97)) (zc0_5 kd_97 ln_97))
  have el_98 := (show (((zAd a0 e0 98), zCell (D, (ca, (zAd a0 e0, T))) (u0, W0) 98) : Nat × va_E) = (zAd a0 e0 98, .inl (ca 0, 1296, .inl (fun _ => 0))) from congrArg (Prod.mk (zAd a0 e0 98)) (zc0_5 kd_98 ln_98))
  have el_99 := (show (((zAd a0 e0 99), zCell (D, (ca, (zAd a0 e0, T))) (u0, W0) 99) : Nat × va_E) = (zAd a0 e0 99, .inl (ca 0, 1296, .inl (fun _ => 0))) from congrArg (Prod.mk (zAd a0 e0 99)) (zc0_5 kd_99 ln_99))
  have el_100 := (show (((zAd a0 e0 100), zCell (D, (ca, (zAd a0 e0, T))) (u0, W0) 100) : Nat × va_E) = (zAd a0 e0 100, .inr (7, [.int 0, .int (-1), .ref (zAd a0 e0 101), .ref (zAd a0 e0 102), .ref (zAd a0 e0 103), .ref (zAd a0 e0 104)])) from congrArg (Prod.mk (zAd a0 e0 100)) (zc0_9 kd_100))
  have el_101 := (show (((zAd a0 e0 101), zCell (D, (ca, (zAd a0 e0, T))) (u0, W0) 101) : Nat × va_E) = (zAd a0 e0 101, .inl (ca 0, 336, .inl (fun _ => 0))) from congrArg (Prod.mk (zAd a0 e0 101)) (zc0_5 kd_101 ln_101))
  have el_102 := (show (((zAd a0 e0 102), zCell (D, (ca, (zAd a0 e0, T))) (u0, W0) 102) : Nat × va_E) = (zAd a0 e0 102, .inl (ca 0, 336, .inl (fun _ => 0))) from congrArg (Prod.mk (zAd a0 e0 102)) (zc0_5 kd_102 ln_102))
  have el_103 := (show (((zAd a0 e0 103), zCell (D, (ca, (zAd a0 e0, T))) (u0, W0) 103) : Nat × va_E) = (zAd a0 e0 103, .inl (ca 0, 1296, .inl (fun _ => 0))) from congrArg (Prod.mk (zAd a0 e0 103)) (zc0_5 kd_103 ln_103))
  have el_104 := (show (((zAd a0 e0 104), zCell (D, (ca, (zAd a0 e0, T))) (u0, W0) 104) : Nat × va_E) = (zAd a0 e0 104, .inl (ca 0, 1296, .inl (fun _ => 0))) from congrArg (Prod.mk (zAd a0 e0 104)) (zc0_5 kd_104 ln_104))
  have el_105 := (show (((zAd a0 e0 105), zCell (D, (ca, (zAd a0 e0, T))) (u0, W0) 105) : Nat × va_E) = (zAd a0 e0 105, .inr (5, [.int (-1), .ref (zAd a0 e0 106), .ref (zAd a0 e0 107)])) from congrArg (Prod.mk (zAd a0 e0 105)) (zc0_10 kd_105))
  have el_106 := (show (((zAd a0 e0 106), zCell (D, (ca, (zAd a0 e0, T))) (u0, W0) 106) : Nat × va_E) = (zAd a0 e0 106, .inl (ca 0, 336, .inl (fun _ => 0))) from congrArg (Prod.mk (zAd a0 e0 106)) (zc0_5 kd_106 ln_106))
  have el_107 := (show (((zAd a0 e0 107), zCell (D, (ca, (zAd a0 e0, T))) (u0, W0) 107) : Nat × va_E) = (zAd a0 e0 107, .inl (ca 0, 1296, .inl (fun _ => 0))) from congrArg (Prod.mk (zAd a0 e0 107)) (zc0_5 kd_107 ln_107))
  have el_108 := (show (((zAd a0 e0 108), zCell (D, (ca, (zAd a0 e0, T))) (u0, W0) 108) : Nat × va_E) = (zAd a0 e0 108, .inr (8, [.int 0, .ref (zAd a0 e0 109)])) from congrArg (Prod.mk (zAd a0 e0 108)) (zc0_11 kd_108))
  have el_109 := (show (((zAd a0 e0 109), zCell (D, (ca, (zAd a0 e0, T))) (u0, W0) 109) : Nat × va_E) = (zAd a0 e0 109, .inl (ca 1, 160, .inl (fun _ => 0))) from congrArg (Prod.mk (zAd a0 e0 109)) (zc0_6 kd_109 ln_109))
  have el_110 := (show (((zAd a0 e0 110), zCell (D, (ca, (zAd a0 e0, T))) (u0, W0) 110) : Nat × va_E) = (zAd a0 e0 110, .inr (8, [.int 0, .ref (zAd a0 e0 111)])) from congrArg (Prod.mk (zAd a0 e0 110)) (zc0_11 kd_110))
  have el_111 := (show (((zAd a0 e0 111), zCell (D, (ca, (zAd a0 e0, T))) (u0, W0) 111) : Nat × va_E) = (zAd a0 e0 111, .inl (ca 1, 160, .inl (fun _ => 0))) from congrArg (Prod.mk (zAd a0 e0 111)) (zc0_6 kd_111 ln_111))
  have el_112 := (show (((zAd a0 e0 112), zCell (D, (ca, (zAd a0 e0, T))) (u0, W0) 112) : Nat × va_E) = (zAd a0 e0 112, .inr (3, [.int 0, .ref (zAd a0 e0 113), .ref (zAd a0 e0 114), .ref (zAd a0 e0 115), .int 0])) from congrArg (Prod.mk (zAd a0 e0 112)) (zc0_12 kd_112))
  have el_113 := (show (((zAd a0 e0 113), zCell (D, (ca, (zAd a0 e0, T))) (u0, W0) 113) : Nat × va_E) = (zAd a0 e0 113, .inl (ca 0, 30, .inl (fun _ => 0))) from congrArg (Prod.mk (zAd a0 e0 113)) (zc0_5 kd_113 ln_113))
  have el_114 := (show (((zAd a0 e0 114), zCell (D, (ca, (zAd a0 e0, T))) (u0, W0) 114) : Nat × va_E) = (zAd a0 e0 114, .inl (ca 0, 30, .inl (fun _ => 0))) from congrArg (Prod.mk (zAd a0 e0 114)) (zc0_5 kd_114 ln_114))
  have el_115 := (show (((zAd a0 e0 115), zCell (D, (ca, (zAd a0 e0, T))) (u0, W0) 115) : Nat × va_E) = (zAd a0 e0 115, .inl (ca 0, 30, .inl (fun _ => 0))) from congrArg (Prod.mk (zAd a0 e0 115)) (zc0_5 kd_115 ln_115))
  have el_116 := (show (((zAd a0 e0 116), zCell (D, (ca, (zAd a0 e0, T))) (u0, W0) 116) : Nat × va_E) = (zAd a0 e0 116, .inr (4, [.int 0, .int 0, .int 0, .int 0])) from congrArg (Prod.mk (zAd a0 e0 116)) (zc0_13 kd_116))
  rw [zW_lit]
  unfold zLit
  exact congr (congrArg List.cons el_0) (congr (congrArg List.cons el_1) (congr (congrArg List.cons el_2) (congr (congrArg List.cons el_3) (congr (congrArg List.cons el_4) (congr (congrArg List.cons el_5) (congr (congrArg List.cons el_6) (congr (congrArg List.cons el_7) (congr (congrArg List.cons el_8) (congr (congrArg List.cons el_9) (congr (congrArg List.cons el_10) (congr (congrArg List.cons el_11) (congr (congrArg List.cons el_12) (congr (congrArg List.cons el_13) (congr (congrArg List.cons el_14) (congr (congrArg List.cons el_15) (congr (congrArg List.cons el_16) (congr (congrArg List.cons el_17) (congr (congrArg List.cons el_18) (congr (congrArg List.cons el_19) (congr (congrArg List.cons el_20) (congr (congrArg List.cons el_21) (congr (congrArg List.cons el_22) (congr (congrArg List.cons el_23) (congr (congrArg List.cons el_24) (congr (congrArg List.cons el_25) (congr (congrArg List.cons el_26) (congr (congrArg List.cons el_27) (congr (congrArg List.cons el_28) (congr (congrArg List.cons el_29) (congr (congrArg List.cons el_30) (congr (congrArg List.cons el_31) (congr (congrArg List.cons el_32) (congr (congrArg List.cons el_33) (congr (congrArg List.cons el_34) (congr (congrArg List.cons el_35) (congr (congrArg List.cons el_36) (congr (congrArg List.cons el_37) (congr (congrArg List.cons el_38) (congr (congrArg List.cons el_39) (congr (congrArg List.cons el_40) (congr (congrArg List.cons el_41) (congr (congrArg List.cons el_42) (congr (congrArg List.cons el_43) (congr (congrArg List.cons el_44) (congr (congrArg List.cons el_45) (congr (congrArg List.cons el_46) (congr (congrArg List.cons el_47) (congr (congrArg List.cons el_48) (congr (congrArg List.cons el_49) (congr (congrArg List.cons el_50) (congr (congrArg List.cons el_51) (congr (congrArg List.cons el_52) (congr (congrArg List.cons el_53) (congr (congrArg List.cons el_54) (congr (congrArg List.cons el_55) (congr (congrArg List.cons el_56) (congr (congrArg List.cons el_57) (congr (congrArg List.cons el_58) (congr (congrArg List.cons el_59) (congr (congrArg List.cons el_60) (congr (congrArg List.cons el_61) (congr (congrArg List.cons el_62) (congr (congrArg List.cons el_63) (congr (congrArg List.cons el_64) (congr (congrArg List.cons el_65) (congr (congrArg List.cons el_66) (congr (congrArg List.cons el_67) (congr (congrArg List.cons el_68) (congr (congrArg List.cons el_69) (congr (congrArg List.cons el_70) (congr (congrArg List.cons el_71) (congr (congrArg List.cons el_72) (congr (congrArg List.cons el_73) (congr (congrArg List.cons el_74) (congr (congrArg List.cons el_75) (congr (congrArg List.cons el_76) (congr (congrArg List.cons el_77) (congr (congrArg List.cons el_78) (congr (congrArg List.cons el_79) (congr (congrArg List.cons el_80) (congr (congrArg List.cons el_81) (congr (congrArg List.cons el_82) (congr (congrArg List.cons el_83) (congr (congrArg List.cons el_84) (congr (congrArg List.cons el_85) (congr (congrArg List.cons el_86) (congr (congrArg List.cons el_87) (congr (congrArg List.cons el_88) (congr (congrArg List.cons el_89) (congr (congrArg List.cons el_90) (congr (congrArg List.cons el_91) (congr (congrArg List.cons el_92) (congr (congrArg List.cons el_93) (congr (congrArg List.cons el_94) (congr (congrArg List.cons el_95) (congr (congrArg List.cons el_96) (congr (congrArg List.cons el_97) (congr (congrArg List.cons el_98) (congr (congrArg List.cons el_99) (congr (congrArg List.cons el_100) (congr (congrArg List.cons el_101) (congr (congrArg List.cons el_102) (congr (congrArg List.cons el_103) (congr (congrArg List.cons el_104) (congr (congrArg List.cons el_105) (congr (congrArg List.cons el_106) (congr (congrArg List.cons el_107) (congr (congrArg List.cons el_108) (congr (congrArg List.cons el_109) (congr (congrArg List.cons el_110) (congr (congrArg List.cons el_111) (congr (congrArg List.cons el_112) (congr (congrArg List.cons el_113) (congr (congrArg List.cons el_114) (congr (congrArg List.cons el_115) (congrArg (fun z => [z]) el_116))))))))))))))))))))))))))))))))))))))))))))))))))))))))))))))))))))))))))))))))))))))))))))))))))))))))))))))))))))
def zLitE (ca : Nat → ClassId) (a0 : Nat) (e0 : Nat → Nat) (x : va_E) : va_W := [(a0, .inr (9, [.ref (e0 0), .ref (e0 8), .ref (e0 16), .int 0, .ref (e0 24), .ref (e0 90), .ref (e0 94), .ref (e0 99), .ref (e0 104), .ref (e0 107), .ref (e0 109), .ref (e0 111), .ref (e0 115), .int (-1), .int 0, .int 0])), (e0 0, .inr (6, [.ref (e0 1), .ref (e0 5), .int 0])), (e0 1, .inr (1, [.int 0, .int 0, .int 0, .int 1, .int 0, .ref (e0 2), .ref (e0 3), .ref (e0 4)])), (e0 2, .inl (ca 0, 16, .inl (fun _ => 0))), (e0 3, .inl (ca 0, 16, .inl (fun _ => 0))), (e0 4, .inl (ca 0, 8, .inl (fun _ => 0))), (e0 5, .inr (2, [.int 0, .int 0, .ref (e0 6), .ref (e0 7)])), (e0 6, .inl (ca 0, 41, .inl (fun _ => 0))), (e0 7, .inl (ca 0, 40, .inl (fun _ => 0))), (e0 8, .inr (6, [.ref (e0 9), .ref (e0 13), .int 0])), (e0 9, .inr (1, [.int 0, .int 0, .int 0, .int 1, .int 0, .ref (e0 10), .ref (e0 11), .ref (e0 12)])), (e0 10, .inl (ca 0, 16, .inl (fun _ => 0))), (e0 11, .inl (ca 0, 16, .inl (fun _ => 0))), (e0 12, .inl (ca 0, 8, .inl (fun _ => 0))), (e0 13, .inr (2, [.int 0, .int 0, .ref (e0 14), .ref (e0 15)])), (e0 14, .inl (ca 0, 41, .inl (fun _ => 0))), (e0 15, .inl (ca 0, 40, .inl (fun _ => 0))), (e0 16, .inr (6, [.ref (e0 17), .ref (e0 21), .int 0])), (e0 17, .inr (1, [.int 0, .int 0, .int 0, .int 1, .int 0, .ref (e0 18), .ref (e0 19), .ref (e0 20)])), (e0 18, .inl (ca 0, 16, .inl (fun _ => 0))), (e0 19, .inl (ca 0, 16, .inl (fun _ => 0))), (e0 20, .inl (ca 0, 8, .inl (fun _ => 0))), (e0 21, .inr (2, [.int 0, .int 0, .ref (e0 22), .ref (e0 23)])), (e0 22, .inl (ca 0, 41, .inl (fun _ => 0))), (e0 23, .inl (ca 0, 40, .inl (fun _ => 0))), (e0 24, .inr (0, [.ref (e0 25), .int 0, .int 0])), (e0 25, x), (e0 26, .inr (6, [.ref (e0 27), .ref (e0 31), .int 0])), (e0 27, .inr (1, [.int 0, .int 0, .int 0, .int 1, .int 0, .ref (e0 28), .ref (e0 29), .ref (e0 30)])), (e0 28, .inl (ca 0, 16, .inl (fun _ => 0))), (e0 29, .inl (ca 0, 16, .inl (fun _ => 0))), (e0 30, .inl (ca 0, 8, .inl (fun _ => 0))), (e0 31, .inr (2, [.int 0, .int 0, .ref (e0 32), .ref (e0 33)])), (e0 32, .inl (ca 0, 41, .inl (fun _ => 0))), (e0 33, .inl (ca 0, 40, .inl (fun _ => 0))), (e0 34, .inr (6, [.ref (e0 35), .ref (e0 39), .int 0])), (e0 35, .inr (1, [.int 0, .int 0, .int 0, .int 1, .int 0, .ref (e0 36), .ref (e0 37), .ref (e0 38)])), (e0 36, .inl (ca 0, 16, .inl (fun _ => 0))), (e0 37, .inl (ca 0, 16, .inl (fun _ => 0))), (e0 38, .inl (ca 0, 8, .inl (fun _ => 0))), (e0 39, .inr (2, [.int 0, .int 0, .ref (e0 40), .ref (e0 41)])), (e0 40, .inl (ca 0, 41, .inl (fun _ => 0))), (e0 41, .inl (ca 0, 40, .inl (fun _ => 0))), (e0 42, .inr (6, [.ref (e0 43), .ref (e0 47), .int 0])), (e0 43, .inr (1, [.int 0, .int 0, .int 0, .int 1, .int 0, .ref (e0 44), .ref (e0 45), .ref (e0 46)])), (e0 44, .inl (ca 0, 16, .inl (fun _ => 0))), (e0 45, .inl (ca 0, 16, .inl (fun _ => 0))), (e0 46, .inl (ca 0, 8, .inl (fun _ => 0))), (e0 47, .inr (2, [.int 0, .int 0, .ref (e0 48), .ref (e0 49)])), (e0 48, .inl (ca 0, 41, .inl (fun _ => 0))), (e0 49, .inl (ca 0, 40, .inl (fun _ => 0))), (e0 50, .inr (6, [.ref (e0 51), .ref (e0 55), .int 0])), (e0 51, .inr (1, [.int 0, .int 0, .int 0, .int 1, .int 0, .ref (e0 52), .ref (e0 53), .ref (e0 54)])), (e0 52, .inl (ca 0, 16, .inl (fun _ => 0))), (e0 53, .inl (ca 0, 16, .inl (fun _ => 0))), (e0 54, .inl (ca 0, 8, .inl (fun _ => 0))), (e0 55, .inr (2, [.int 0, .int 0, .ref (e0 56), .ref (e0 57)])), (e0 56, .inl (ca 0, 41, .inl (fun _ => 0))), (e0 57, .inl (ca 0, 40, .inl (fun _ => 0))), (e0 58, .inr (6, [.ref (e0 59), .ref (e0 63), .int 0])), (e0 59, .inr (1, [.int 0, .int 0, .int 0, .int 1, .int 0, .ref (e0 60), .ref (e0 61), .ref (e0 62)])), (e0 60, .inl (ca 0, 16, .inl (fun _ => 0))), (e0 61, .inl (ca 0, 16, .inl (fun _ => 0))), (e0 62, .inl (ca 0, 8, .inl (fun _ => 0))), (e0 63, .inr (2, [.int 0, .int 0, .ref (e0 64), .ref (e0 65)])), (e0 64, .inl (ca 0, 41, .inl (fun _ => 0))), (e0 65, .inl (ca 0, 40, .inl (fun _ => 0))), (e0 66, .inr (6, [.ref (e0 67), .ref (e0 71), .int 0])), (e0 67, .inr (1, [.int 0, .int 0, .int 0, .int 1, .int 0, .ref (e0 68), .ref (e0 69), .ref (e0 70)])), (e0 68, .inl (ca 0, 16, .inl (fun _ => 0))), (e0 69, .inl (ca 0, 16, .inl (fun _ => 0))), (e0 70, .inl (ca 0, 8, .inl (fun _ => 0))), (e0 71, .inr (2, [.int 0, .int 0, .ref (e0 72), .ref (e0 73)])), (e0 72, .inl (ca 0, 41, .inl (fun _ => 0))), (e0 73, .inl (ca 0, 40, .inl (fun _ => 0))), (e0 74, .inr (6, [.ref (e0 75), .ref (e0 79), .int 0])), (e0 75, .inr (1, [.int 0, .int 0, .int 0, .int 1, .int 0, .ref (e0 76), .ref (e0 77), .ref (e0 78)])), (e0 76, .inl (ca 0, 16, .inl (fun _ => 0))), (e0 77, .inl (ca 0, 16, .inl (fun _ => 0))), (e0 78, .inl (ca 0, 8, .inl (fun _ => 0))), (e0 79, .inr (2, [.int 0, .int 0, .ref (e0 80), .ref (e0 81)])), (e0 80, .inl (ca 0, 41, .inl (fun _ => 0))), (e0 81, .inl (ca 0, 40, .inl (fun _ => 0))), (e0 82, .inr (6, [.ref (e0 83), .ref (e0 87), .int 0])), (e0 83, .inr (1, [.int 0, .int 0, .int 0, .int 1, .int 0, .ref (e0 84), .ref (e0 85), .ref (e0 86)])), (e0 84, .inl (ca 0, 16, .inl (fun _ => 0))), (e0 85, .inl (ca 0, 16, .inl (fun _ => 0))), (e0 86, .inl (ca 0, 8, .inl (fun _ => 0))), (e0 87, .inr (2, [.int 0, .int 0, .ref (e0 88), .ref (e0 89)])), (e0 88, .inl (ca 0, 41, .inl (fun _ => 0))), (e0 89, .inl (ca 0, 40, .inl (fun _ => 0))), (e0 90, .inr (1, [.int 0, .int 0, .int 0, .int 1, .int 0, .ref (e0 91), .ref (e0 92), .ref (e0 93)])), (e0 91, .inl (ca 0, 16, .inl (fun _ => 0))), (e0 92, .inl (ca 0, 16, .inl (fun _ => 0))), (e0 93, .inl (ca 0, 8, .inl (fun _ => 0))), (e0 94, .inr (7, [.int 0, .int (-1), .ref (e0 95), .ref (e0 96), .ref (e0 97), .ref (e0 98)])), (e0 95, .inl (ca 0, 336, .inl (fun _ => 0))), (e0 96, .inl (ca 0, 336, .inl (fun _ => 0))), (e0 97, .inl (ca 0, 1296, .inl (fun _ => 0))), (e0 98, .inl (ca 0, 1296, .inl (fun _ => 0))), (e0 99, .inr (7, [.int 0, .int (-1), .ref (e0 100), .ref (e0 101), .ref (e0 102), .ref (e0 103)])), (e0 100, .inl (ca 0, 336, .inl (fun _ => 0))), (e0 101, .inl (ca 0, 336, .inl (fun _ => 0))), (e0 102, .inl (ca 0, 1296, .inl (fun _ => 0))), (e0 103, .inl (ca 0, 1296, .inl (fun _ => 0))), (e0 104, .inr (5, [.int (-1), .ref (e0 105), .ref (e0 106)])), (e0 105, .inl (ca 0, 336, .inl (fun _ => 0))), (e0 106, .inl (ca 0, 1296, .inl (fun _ => 0))), (e0 107, .inr (8, [.int 0, .ref (e0 108)])), (e0 108, .inl (ca 1, 160, .inl (fun _ => 0))), (e0 109, .inr (8, [.int 0, .ref (e0 110)])), (e0 110, .inl (ca 1, 160, .inl (fun _ => 0))), (e0 111, .inr (3, [.int 0, .ref (e0 112), .ref (e0 113), .ref (e0 114), .int 0])), (e0 112, .inl (ca 0, 30, .inl (fun _ => 0))), (e0 113, .inl (ca 0, 30, .inl (fun _ => 0))), (e0 114, .inl (ca 0, 30, .inl (fun _ => 0))), (e0 115, .inr (4, [.int 0, .int 0, .int 0, .int 0]))]
theorem zAd_0 (a0 : Nat) (e0 : Nat → Nat) : zAd a0 e0 0 = a0 := rfl
theorem zAd_1 (a0 : Nat) (e0 : Nat → Nat) : zAd a0 e0 1 = e0 0 := rfl
theorem zAd_2 (a0 : Nat) (e0 : Nat → Nat) : zAd a0 e0 2 = e0 1 := rfl
theorem zAd_3 (a0 : Nat) (e0 : Nat → Nat) : zAd a0 e0 3 = e0 2 := rfl
theorem zAd_4 (a0 : Nat) (e0 : Nat → Nat) : zAd a0 e0 4 = e0 3 := rfl
theorem zAd_5 (a0 : Nat) (e0 : Nat → Nat) : zAd a0 e0 5 = e0 4 := rfl
theorem zAd_6 (a0 : Nat) (e0 : Nat → Nat) : zAd a0 e0 6 = e0 5 := rfl
theorem zAd_7 (a0 : Nat) (e0 : Nat → Nat) : zAd a0 e0 7 = e0 6 := rfl
theorem zAd_8 (a0 : Nat) (e0 : Nat → Nat) : zAd a0 e0 8 = e0 7 := rfl
theorem zAd_9 (a0 : Nat) (e0 : Nat → Nat) : zAd a0 e0 9 = e0 8 := rfl
theorem zAd_10 (a0 : Nat) (e0 : Nat → Nat) : zAd a0 e0 10 = e0 9 := rfl
theorem zAd_11 (a0 : Nat) (e0 : Nat → Nat) : zAd a0 e0 11 = e0 10 := rfl
theorem zAd_12 (a0 : Nat) (e0 : Nat → Nat) : zAd a0 e0 12 = e0 11 := rfl
theorem zAd_13 (a0 : Nat) (e0 : Nat → Nat) : zAd a0 e0 13 = e0 12 := rfl
theorem zAd_14 (a0 : Nat) (e0 : Nat → Nat) : zAd a0 e0 14 = e0 13 := rfl
theorem zAd_15 (a0 : Nat) (e0 : Nat → Nat) : zAd a0 e0 15 = e0 14 := rfl
theorem zAd_16 (a0 : Nat) (e0 : Nat → Nat) : zAd a0 e0 16 = e0 15 := rfl
theorem zAd_17 (a0 : Nat) (e0 : Nat → Nat) : zAd a0 e0 17 = e0 16 := rfl
theorem zAd_18 (a0 : Nat) (e0 : Nat → Nat) : zAd a0 e0 18 = e0 17 := rfl
theorem zAd_19 (a0 : Nat) (e0 : Nat → Nat) : zAd a0 e0 19 = e0 18 := rfl
theorem zAd_20 (a0 : Nat) (e0 : Nat → Nat) : zAd a0 e0 20 = e0 19 := rfl
theorem zAd_21 (a0 : Nat) (e0 : Nat → Nat) : zAd a0 e0 21 = e0 20 := rfl
theorem zAd_22 (a0 : Nat) (e0 : Nat → Nat) : zAd a0 e0 22 = e0 21 := rfl
theorem zAd_23 (a0 : Nat) (e0 : Nat → Nat) : zAd a0 e0 23 = e0 22 := rfl
theorem zAd_24 (a0 : Nat) (e0 : Nat → Nat) : zAd a0 e0 24 = e0 23 := rfl
theorem zAd_25 (a0 : Nat) (e0 : Nat → Nat) : zAd a0 e0 25 = e0 24 := rfl
theorem zAd_26 (a0 : Nat) (e0 : Nat → Nat) : zAd a0 e0 26 = e0 25 := rfl
theorem zAd_27 (a0 : Nat) (e0 : Nat → Nat) : zAd a0 e0 27 = e0 26 := rfl
theorem zAd_28 (a0 : Nat) (e0 : Nat → Nat) : zAd a0 e0 28 = e0 27 := rfl
theorem zAd_29 (a0 : Nat) (e0 : Nat → Nat) : zAd a0 e0 29 = e0 28 := rfl
theorem zAd_30 (a0 : Nat) (e0 : Nat → Nat) : zAd a0 e0 30 = e0 29 := rfl
theorem zAd_31 (a0 : Nat) (e0 : Nat → Nat) : zAd a0 e0 31 = e0 30 := rfl
theorem zAd_32 (a0 : Nat) (e0 : Nat → Nat) : zAd a0 e0 32 = e0 31 := rfl
theorem zAd_33 (a0 : Nat) (e0 : Nat → Nat) : zAd a0 e0 33 = e0 32 := rfl
theorem zAd_34 (a0 : Nat) (e0 : Nat → Nat) : zAd a0 e0 34 = e0 33 := rfl
theorem zAd_35 (a0 : Nat) (e0 : Nat → Nat) : zAd a0 e0 35 = e0 34 := rfl
theorem zAd_36 (a0 : Nat) (e0 : Nat → Nat) : zAd a0 e0 36 = e0 35 := rfl
theorem zAd_37 (a0 : Nat) (e0 : Nat → Nat) : zAd a0 e0 37 = e0 36 := rfl
theorem zAd_38 (a0 : Nat) (e0 : Nat → Nat) : zAd a0 e0 38 = e0 37 := rfl
theorem zAd_39 (a0 : Nat) (e0 : Nat → Nat) : zAd a0 e0 39 = e0 38 := rfl
theorem zAd_40 (a0 : Nat) (e0 : Nat → Nat) : zAd a0 e0 40 = e0 39 := rfl
theorem zAd_41 (a0 : Nat) (e0 : Nat → Nat) : zAd a0 e0 41 = e0 40 := rfl
theorem zAd_42 (a0 : Nat) (e0 : Nat → Nat) : zAd a0 e0 42 = e0 41 := rfl
theorem zAd_43 (a0 : Nat) (e0 : Nat → Nat) : zAd a0 e0 43 = e0 42 := rfl
theorem zAd_44 (a0 : Nat) (e0 : Nat → Nat) : zAd a0 e0 44 = e0 43 := rfl
theorem zAd_45 (a0 : Nat) (e0 : Nat → Nat) : zAd a0 e0 45 = e0 44 := rfl
theorem zAd_46 (a0 : Nat) (e0 : Nat → Nat) : zAd a0 e0 46 = e0 45 := rfl
theorem zAd_47 (a0 : Nat) (e0 : Nat → Nat) : zAd a0 e0 47 = e0 46 := rfl
theorem zAd_48 (a0 : Nat) (e0 : Nat → Nat) : zAd a0 e0 48 = e0 47 := rfl
theorem zAd_49 (a0 : Nat) (e0 : Nat → Nat) : zAd a0 e0 49 = e0 48 := rfl
theorem zAd_50 (a0 : Nat) (e0 : Nat → Nat) : zAd a0 e0 50 = e0 49 := rfl
theorem zAd_51 (a0 : Nat) (e0 : Nat → Nat) : zAd a0 e0 51 = e0 50 := rfl
theorem zAd_52 (a0 : Nat) (e0 : Nat → Nat) : zAd a0 e0 52 = e0 51 := rfl
theorem zAd_53 (a0 : Nat) (e0 : Nat → Nat) : zAd a0 e0 53 = e0 52 := rfl
theorem zAd_54 (a0 : Nat) (e0 : Nat → Nat) : zAd a0 e0 54 = e0 53 := rfl
theorem zAd_55 (a0 : Nat) (e0 : Nat → Nat) : zAd a0 e0 55 = e0 54 := rfl
theorem zAd_56 (a0 : Nat) (e0 : Nat → Nat) : zAd a0 e0 56 = e0 55 := rfl
theorem zAd_57 (a0 : Nat) (e0 : Nat → Nat) : zAd a0 e0 57 = e0 56 := rfl
theorem zAd_58 (a0 : Nat) (e0 : Nat → Nat) : zAd a0 e0 58 = e0 57 := rfl
theorem zAd_59 (a0 : Nat) (e0 : Nat → Nat) : zAd a0 e0 59 = e0 58 := rfl
theorem zAd_60 (a0 : Nat) (e0 : Nat → Nat) : zAd a0 e0 60 = e0 59 := rfl
theorem zAd_61 (a0 : Nat) (e0 : Nat → Nat) : zAd a0 e0 61 = e0 60 := rfl
theorem zAd_62 (a0 : Nat) (e0 : Nat → Nat) : zAd a0 e0 62 = e0 61 := rfl
theorem zAd_63 (a0 : Nat) (e0 : Nat → Nat) : zAd a0 e0 63 = e0 62 := rfl
theorem zAd_64 (a0 : Nat) (e0 : Nat → Nat) : zAd a0 e0 64 = e0 63 := rfl
theorem zAd_65 (a0 : Nat) (e0 : Nat → Nat) : zAd a0 e0 65 = e0 64 := rfl
theorem zAd_66 (a0 : Nat) (e0 : Nat → Nat) : zAd a0 e0 66 = e0 65 := rfl
theorem zAd_67 (a0 : Nat) (e0 : Nat → Nat) : zAd a0 e0 67 = e0 66 := rfl
theorem zAd_68 (a0 : Nat) (e0 : Nat → Nat) : zAd a0 e0 68 = e0 67 := rfl
theorem zAd_69 (a0 : Nat) (e0 : Nat → Nat) : zAd a0 e0 69 = e0 68 := rfl
theorem zAd_70 (a0 : Nat) (e0 : Nat → Nat) : zAd a0 e0 70 = e0 69 := rfl
theorem zAd_71 (a0 : Nat) (e0 : Nat → Nat) : zAd a0 e0 71 = e0 70 := rfl
theorem zAd_72 (a0 : Nat) (e0 : Nat → Nat) : zAd a0 e0 72 = e0 71 := rfl
theorem zAd_73 (a0 : Nat) (e0 : Nat → Nat) : zAd a0 e0 73 = e0 72 := rfl
theorem zAd_74 (a0 : Nat) (e0 : Nat → Nat) : zAd a0 e0 74 = e0 73 := rfl
theorem zAd_75 (a0 : Nat) (e0 : Nat → Nat) : zAd a0 e0 75 = e0 74 := rfl
theorem zAd_76 (a0 : Nat) (e0 : Nat → Nat) : zAd a0 e0 76 = e0 75 := rfl
theorem zAd_77 (a0 : Nat) (e0 : Nat → Nat) : zAd a0 e0 77 = e0 76 := rfl
theorem zAd_78 (a0 : Nat) (e0 : Nat → Nat) : zAd a0 e0 78 = e0 77 := rfl
theorem zAd_79 (a0 : Nat) (e0 : Nat → Nat) : zAd a0 e0 79 = e0 78 := rfl
theorem zAd_80 (a0 : Nat) (e0 : Nat → Nat) : zAd a0 e0 80 = e0 79 := rfl
theorem zAd_81 (a0 : Nat) (e0 : Nat → Nat) : zAd a0 e0 81 = e0 80 := rfl
theorem zAd_82 (a0 : Nat) (e0 : Nat → Nat) : zAd a0 e0 82 = e0 81 := rfl
theorem zAd_83 (a0 : Nat) (e0 : Nat → Nat) : zAd a0 e0 83 = e0 82 := rfl
theorem zAd_84 (a0 : Nat) (e0 : Nat → Nat) : zAd a0 e0 84 = e0 83 := rfl
theorem zAd_85 (a0 : Nat) (e0 : Nat → Nat) : zAd a0 e0 85 = e0 84 := rfl
theorem zAd_86 (a0 : Nat) (e0 : Nat → Nat) : zAd a0 e0 86 = e0 85 := rfl
theorem zAd_87 (a0 : Nat) (e0 : Nat → Nat) : zAd a0 e0 87 = e0 86 := rfl
theorem zAd_88 (a0 : Nat) (e0 : Nat → Nat) : zAd a0 e0 88 = e0 87 := rfl
theorem zAd_89 (a0 : Nat) (e0 : Nat → Nat) : zAd a0 e0 89 = e0 88 := rfl
theorem zAd_90 (a0 : Nat) (e0 : Nat → Nat) : zAd a0 e0 90 = e0 89 := rfl
theorem zAd_91 (a0 : Nat) (e0 : Nat → Nat) : zAd a0 e0 91 = e0 90 := rfl
theorem zAd_92 (a0 : Nat) (e0 : Nat → Nat) : zAd a0 e0 92 = e0 91 := rfl
theorem zAd_93 (a0 : Nat) (e0 : Nat → Nat) : zAd a0 e0 93 = e0 92 := rfl
theorem zAd_94 (a0 : Nat) (e0 : Nat → Nat) : zAd a0 e0 94 = e0 93 := rfl
theorem zAd_95 (a0 : Nat) (e0 : Nat → Nat) : zAd a0 e0 95 = e0 94 := rfl
theorem zAd_96 (a0 : Nat) (e0 : Nat → Nat) : zAd a0 e0 96 = e0 95 := rfl
theorem zAd_97 (a0 : Nat) (e0 : Nat → Nat) : zAd a0 e0 97 = e0 96 := rfl
theorem zAd_98 (a0 : Nat) (e0 : Nat → Nat) : zAd a0 e0 98 = e0 97 := rfl
theorem zAd_99 (a0 : Nat) (e0 : Nat → Nat) : zAd a0 e0 99 = e0 98 := rfl
theorem zAd_100 (a0 : Nat) (e0 : Nat → Nat) : zAd a0 e0 100 = e0 99 := rfl
theorem zAd_101 (a0 : Nat) (e0 : Nat → Nat) : zAd a0 e0 101 = e0 100 := rfl
theorem zAd_102 (a0 : Nat) (e0 : Nat → Nat) : zAd a0 e0 102 = e0 101 := rfl
theorem zAd_103 (a0 : Nat) (e0 : Nat → Nat) : zAd a0 e0 103 = e0 102 := rfl
theorem zAd_104 (a0 : Nat) (e0 : Nat → Nat) : zAd a0 e0 104 = e0 103 := rfl
theorem zAd_105 (a0 : Nat) (e0 : Nat → Nat) : zAd a0 e0 105 = e0 104 := rfl
theorem zAd_106 (a0 : Nat) (e0 : Nat → Nat) : zAd a0 e0 106 = e0 105 := rfl
theorem zAd_107 (a0 : Nat) (e0 : Nat → Nat) : zAd a0 e0 107 = e0 106 := rfl
theorem zAd_108 (a0 : Nat) (e0 : Nat → Nat) : zAd a0 e0 108 = e0 107 := rfl
theorem zAd_109 (a0 : Nat) (e0 : Nat → Nat) : zAd a0 e0 109 = e0 108 := rfl
theorem zAd_110 (a0 : Nat) (e0 : Nat → Nat) : zAd a0 e0 110 = e0 109 := rfl
theorem zAd_111 (a0 : Nat) (e0 : Nat → Nat) : zAd a0 e0 111 = e0 110 := rfl
theorem zAd_112 (a0 : Nat) (e0 : Nat → Nat) : zAd a0 e0 112 = e0 111 := rfl
theorem zAd_113 (a0 : Nat) (e0 : Nat → Nat) : zAd a0 e0 113 = e0 112 := rfl
theorem zAd_114 (a0 : Nat) (e0 : Nat → Nat) : zAd a0 e0 114 = e0 113 := rfl
theorem zAd_115 (a0 : Nat) (e0 : Nat → Nat) : zAd a0 e0 115 = e0 114 := rfl
theorem zAd_116 (a0 : Nat) (e0 : Nat → Nat) : zAd a0 e0 116 = e0 115 := rfl
def zUp (ca : Nat → ClassId) (a0 : Nat) (e0 : Nat → Nat) : va_E := .inl (ca 4, 8, .inr (.inr (.inr (.inr (va_up (va_up (va_up (va_up (va_up (va_up (va_up (va_up (fun _ => none) 0 (some (e0 26))) 1 (some (e0 34))) 2 (some (e0 42))) 3 (some (e0 50))) 4 (some (e0 58))) 5 (some (e0 66))) 6 (some (e0 74))) 7 (some (e0 82)))))))
set_option maxRecDepth 100000 in
set_option maxHeartbeats 1000000 in
theorem zLit_B (ca : Nat → ClassId) (a0 : Nat) (e0 : Nat → Nat) : zLit ca a0 e0 = zLitE ca a0 e0 (zSt8 ca (zAd a0 e0)) := by
  unfold zLit zLitE
  simp only [zAd_0, zAd_1, zAd_2, zAd_3, zAd_4, zAd_5, zAd_6, zAd_7, zAd_8, zAd_9, zAd_10, zAd_11, zAd_12, zAd_13, zAd_14, zAd_15, zAd_16, zAd_17, zAd_18, zAd_19, zAd_20, zAd_21, zAd_22, zAd_23, zAd_24, zAd_25, zAd_26, zAd_27, zAd_28, zAd_29, zAd_30, zAd_31, zAd_32, zAd_33, zAd_34, zAd_35, zAd_36, zAd_37, zAd_38, zAd_39, zAd_40, zAd_41, zAd_42, zAd_43, zAd_44, zAd_45, zAd_46, zAd_47, zAd_48, zAd_49, zAd_50, zAd_51, zAd_52, zAd_53, zAd_54, zAd_55, zAd_56, zAd_57, zAd_58, zAd_59, zAd_60, zAd_61, zAd_62, zAd_63, zAd_64, zAd_65, zAd_66, zAd_67, zAd_68, zAd_69, zAd_70, zAd_71, zAd_72, zAd_73, zAd_74, zAd_75, zAd_76, zAd_77, zAd_78, zAd_79, zAd_80, zAd_81, zAd_82, zAd_83, zAd_84, zAd_85, zAd_86, zAd_87, zAd_88, zAd_89, zAd_90, zAd_91, zAd_92, zAd_93, zAd_94, zAd_95, zAd_96, zAd_97, zAd_98, zAd_99, zAd_100, zAd_101, zAd_102, zAd_103, zAd_104, zAd_105, zAd_106, zAd_107, zAd_108, zAd_109, zAd_110, zAd_111, zAd_112, zAd_113, zAd_114, zAd_115, zAd_116]
set_option maxRecDepth 100000 in
set_option maxHeartbeats 1000000 in
theorem zLit_C (ca : Nat → ClassId) (a0 : Nat) (e0 : Nat → Nat) (x y : va_E) : (zLitE ca a0 e0 x).set 26 (e0 25, y) = zLitE ca a0 e0 y := by
  unfold zLitE
  rfl
set_option maxRecDepth 100000 in
set_option maxHeartbeats 1000000 in
theorem zLit_A (g : GE) (a0 : Nat) (e0 : Nat → Nat) : ([] ++ ZF9 g a0 e0) = zLitE g.2.1 a0 e0 (zUp g.2.1 a0 e0) := by
  simp only [ZF9, ZF0, ZF1, ZF2, ZF3, ZF4, ZF5, ZF6, ZF7, ZF8, List.nil_append, List.cons_append, Nat.reduceAdd]
  unfold zLitE zUp
  rfl
set_option maxRecDepth 100000 in
set_option maxHeartbeats 1000000 in
theorem z_first (D : va_G) (ca : Nat → ClassId) (T : GT) (hT : T.2.1 = []) (g : GE) (a0 : Nat) (e0 : Nat → Nat) (hg : g.2.1 = ca) : zW (D, (ca, (zAd a0 e0, T))) (u0, W0) = (([] ++ ZF9 g a0 e0 : va_W)).set 26 (e0 25, zSt8 ca (zAd a0 e0)) := by
  subst hg
  unfold zW
  rw [zW_zLit, zLit_B, zLit_A, zLit_C]
  show _ ++ T.2.1 = _
  rw [hT, List.append_nil]
theorem arrV_ext8 {cI : ClassId} {f h : Nat → Value} (q : ∀ j : Nat, j < 8 → f j = h j) : arrV cI 8 f = arrV cI 8 h := by
  unfold arrV
  rw [show (fun j : Fin 8 => f j.val) = fun j => h j.val from funext fun j => q j.val j.2]
set_option maxRecDepth 100000 in
set_option maxHeartbeats 1000000 in
theorem z_row8 {D : va_G} {cl : List vw_C} {A : Nat → Prop} {H : Heap} {g : GE} {a0 : Nat} {e0 : Nat → Nat} {ws : va_W} (hws : ws = ([] ++ ZF9 g a0 e0)) (hP : va_P D cl ws H) (hD : va_D A ws) : va_P D cl (ws.set 26 (e0 25, zSt8 g.2.1 (zAd a0 e0))) H ∧ va_D A (ws.set 26 (e0 25, zSt8 g.2.1 (zAd a0 e0))) := by
  have he : ws[26]? = some (e0 25, .inl (g.2.1 4, 8, .inr (.inr (.inr (.inr (va_up (va_up (va_up (va_up (va_up (va_up (va_up (va_up (fun _ => none) 0 (some (e0 26))) 1 (some (e0 34))) 2 (some (e0 42))) 3 (some (e0 50))) 4 (some (e0 58))) 5 (some (e0 66))) 6 (some (e0 74))) 7 (some (e0 82)))))))) := by
    rw [hws, zLit_A]
    rfl
  refine ⟨hP.set hD he ?_ (fun _ _ => rfl), hD.set he⟩
  have h1 := hP 26 _ he
  show H[e0 25]? = some (vp_cell _ _)
  refine Eq.trans h1 (congrArg some ?_)
  rw [vp_cell_q, vp_cell_q]
  refine arrV_ext8 (fun j hj => ?_)
  rcases (show j = 0 ∨ j = 1 ∨ j = 2 ∨ j = 3 ∨ j = 4 ∨ j = 5 ∨ j = 6 ∨ j = 7 by omega) with h | h | h | h | h | h | h | h <;> subst h <;> rfl
