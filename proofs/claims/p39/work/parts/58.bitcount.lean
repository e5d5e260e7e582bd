/-! Long.bitCount counts the bits -/
theorem mk8a : mk 85 8 = 6148914691236517205 := by decide +kernel
theorem mk8b : mk 51 8 = 3689348814741910323 := by decide +kernel
theorem mk8c : mk 15 8 = 1085102592571150095 := by decide +kernel
def ctb (x n : Nat) : Nat := fb_ct (fun i => x.testBit i) n
def sK (k : Nat) : UInt64 := (nI k).toInt64.toUInt64 &&& Int64.toUInt64 63
theorem sK_shr {n k : Nat} (hn : n < 2 ^ 64) (hk : k < 64) : ((lN n).toUInt64 >>> sK k).toInt64 = lN (n / 2 ^ k) := wb_shr hn hk
theorem bc1 {x m : Nat} (hx : x < 2 ^ 64) (hm : x / 2 &&& m ≤ x) : lN x - (((lN x).toUInt64 >>> sK 1).toInt64 &&& lN m) = lN (x - (x / 2 &&& m)) := by
  rw [sK_shr hx (by decide), Nat.pow_one, fb_andL, lN_sub hm]
theorem bc2 {x m : Nat} (hx : x < 2 ^ 64) : (lN x &&& lN m) + (((lN x).toUInt64 >>> sK 2).toInt64 &&& lN m) = lN ((x &&& m) + (x / 4 &&& m)) := by
  rw [sK_shr hx (by decide), show 2 ^ 2 = 4 from rfl, fb_andL, fb_andL, lN_add]
theorem bc3 {x m : Nat} (hx : x < 2 ^ 64) : (lN x + ((lN x).toUInt64 >>> sK 4).toInt64) &&& lN m = lN ((x + x / 16) &&& m) := by
  rw [sK_shr hx (by decide), show 2 ^ 4 = 16 from rfl, lN_add, fb_andL]
theorem bc4 {x k d : Nat} (hx : x < 2 ^ 64) (hk : k < 64) (hd : 2 ^ k = d) : lN x + ((lN x).toUInt64 >>> sK k).toInt64 = lN (x + x / d) := by
  rw [sK_shr hx hk, hd, lN_add]
theorem mapB_small (x : Nat) : ∀ k, mapB pc (k + 1) x < 9 * 256 ^ k := by
  intro k
  induction k generalizing x with
  | zero => have := pc_le (x % 256) (by omega); rw [mapB, mapB, Nat.pow_zero]; omega
  | succ k ih => have := pc_le (x % 256) (by omega); have := ih (x / 256); rw [mapB, Nat.pow_succ]; omega
theorem bcN {x : Nat} (hx : x < 2 ^ 64) : ∃ X, X + X / 256 + (X + X / 256) / 65536 + (X + X / 256 + (X + X / 256) / 65536) / 4294967296 < 2 ^ 64 ∧ X < 2 ^ 62 ∧ (X + X / 256 + (X + X / 256) / 65536 + (X + X / 256 + (X + X / 256) / 65536) / 4294967296) % 128 = ctb x 64 ∧
    ∃ Y Z, Y < 2 ^ 64 ∧ Z < 2 ^ 64 ∧ x / 2 &&& mk 85 8 ≤ x ∧ x - (x / 2 &&& mk 85 8) = Y ∧ (Y &&& mk 51 8) + (Y / 4 &&& mk 51 8) = Z ∧ (Z + Z / 16) &&& mk 15 8 = X := by
  have hx8 : x < 256 ^ 8 := hx
  have g1l : ∀ l, l < 256 → g1 l < 256 := fun l hl => (t1 l hl 0 (by decide)).2.2
  have g12l : ∀ l, l < 256 → g12 l < 256 := fun l hl => (t4 l hl).2.2
  have y8 : mapB g1 8 x < 256 ^ 8 := mapB_lt g1 g1l 8 x
  have z8 : mapB g12 8 x < 256 ^ 8 := mapB_lt g12 g12l 8 x
  have e2 : mapB g2 8 (mapB g1 8 x) = mapB g12 8 x := mapB_comp g1l (fun _ _ => rfl) 8 x
  have e3 : mapB g3 8 (mapB g12 8 x) = mapB pc 8 x := mapB_comp g12l (fun _ _ => rfl) 8 x
  have w := mapB_small x 7
  have w2 : mapB pc 8 x < 648518346341351424 := w
  have s8 := sum8 x
  have c8 := sumB_ct 8 x
  refine ⟨mapB pc 8 x, ?_, ?_, ?_, mapB g1 8 x, mapB g12 8 x, y8, z8, Nat.le_trans Nat.and_le_left (Nat.div_le_self x 2), st1 8 x hx8, by rw [st2 8 _ y8, e2], by rw [st3 8 _ z8 (mapB_low 8 x), e3]⟩
  · generalize mapB pc 8 x = X at w2
    clear w s8 c8 e2 e3 y8 z8
    omega
  · generalize mapB pc 8 x = X at w2
    clear w s8 c8 e2 e3 y8 z8
    omega
  · rw [s8, c8]; rfl
theorem s_bitCountL {x : Nat} (hx : x < 2 ^ 64) {Q : Int32 → Prop} (h : Q (nI (ctb x 64))) : w_J13_bitCount_95d88 (lN x) Q := by
  obtain ⟨X, b1, b2, b3, Y, Z, b4, b5, b6, b7, b8, b9⟩ := bcN hx
  unfold w_J13_bitCount_95d88
  intro a1 h1 a2 h2 a3 h3 a4 h4 a5 h5 a6 h6
  rw [mk8a] at b6 b7
  rw [mk8b] at b8
  rw [mk8c] at b9
  have E1 : a1 = lN Y := by rw [← b7]; exact h1.trans (bc1 (m := 6148914691236517205) hx b6)
  subst E1
  have E2 : a2 = lN Z := by rw [← b8]; exact h2.trans (bc2 (m := 3689348814741910323) b4)
  subst E2
  have E3 : a3 = lN X := by rw [← b9]; exact h3.trans (bc3 (m := 1085102592571150095) b5)
  subst E3
  have E4 : a4 = lN (X + X / 256) := h4.trans (bc4 (k := 8) (by omega) (by decide) rfl)
  subst E4
  have E5 : a5 = lN (X + X / 256 + (X + X / 256) / 65536) := h5.trans (bc4 (k := 16) (by omega) (by decide) rfl)
  subst E5
  have E6 : a6 = lN (X + X / 256 + (X + X / 256) / 65536 + (X + X / 256 + (X + X / 256) / 65536) / 4294967296) := h6.trans (bc4 (k := 32) (by omega) (by decide) rfl)
  subst E6
  rw [lN_i, show (127 : Int32) = nI (2 ^ 7 - 1) from rfl, fa_mask, show 2 ^ 7 = 128 from rfl, b3]
  exact h
