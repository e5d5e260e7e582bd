/-! CHANGES: refused, all stays; done, the state before is kept -/
section ZH
variable {S : St} {hi : List St} {sv : Option St} {y : Why → Prop} {W : Nat} {u : MU} {Q : Int32 → MU → Prop}
/-- the law's end of a change -/
abbrev zEnd (Q : Int32 → MU → Prop) : Int32 → MU → Prop := fun r u1 => (r < 0 → Q 0 u1) ∧ (¬ r < 0 → Q 1 u1)
theorem Z_gen {op : St → Rs} {wop : (Int32 → MU → Prop) → Prop} (h : IN S hi sv y W u) (hR : ∀ V W' A, W' ≤ W → CI V W' u A none 0 → ∀ Q, RPost W' (a_change A (op A.S)) Q → wop Q) (hlt : ∀ a S', op S = .inr (a, S') → a < 2 ^ 31) (k0 : ∀ u', IN S hi sv (fun _ => True) (W + 2500) u' → Q 0 u') (k1 : ∀ S' u', IN S' (push hi S) sv (fun _ => True) (W + 2500) u' → Q 1 u') : wop (zEnd Q) :=
  C_gen h hR hlt (fun w d u' e h' => ⟨fun _ => k0 u' (h'.any.le (by omega)), fun z => absurd (by decide) z⟩) (fun a S' u' e ha h' => ⟨fun z => absurd z (nI_pos ha), fun _ => k1 S' u' (h'.le (by omega))⟩)
theorem Z_dig (h : IN S hi sv y W u) (k0 : ∀ u', IN S hi sv (fun _ => True) (W + 2500) u' → Q 0 u') (k1 : ∀ S' u', IN S' (push hi S) sv (fun _ => True) (W + 2500) u' → Q 1 u') : w_R_dig  u (zEnd Q) := Z_gen (op := opDig) (wop := w_R_dig  u) h (hR_dig ) (fun a S' e => dig_lt h.ok e) k0 k1
theorem Z_tread {x x2 : Int32} (h : IN S hi sv y W u) (k0 : ∀ u', IN S hi sv (fun _ => True) (W + 2500) u' → Q 0 u') (k1 : ∀ S' u', IN S' (push hi S) sv (fun _ => True) (W + 2500) u' → Q 1 u') : w_R_tread x x2 u (zEnd Q) := Z_gen (op := (fun S => opTread S x x2)) (wop := w_R_tread x x2 u) h (hR_tread ) (fun a S' e => tread_lt h.ok e) k0 k1
theorem Z_grow {x x2 : Int32} (h : IN S hi sv y W u) (k0 : ∀ u', IN S hi sv (fun _ => True) (W + 2500) u' → Q 0 u') (k1 : ∀ S' u', IN S' (push hi S) sv (fun _ => True) (W + 2500) u' → Q 1 u') : w_R_grow x x2 u (zEnd Q) := Z_gen (op := (fun S => opGrow S x x2)) (wop := w_R_grow x x2 u) h (hR_grow ) (fun a S' e => grow_lt h.ok e) k0 k1
theorem Z_trap {x : Int32} {b : Bool} (h : IN S hi sv y W u) (k0 : ∀ u', IN S hi sv (fun _ => True) (W + 2500) u' → Q 0 u') (k1 : ∀ S' u', IN S' (push hi S) sv (fun _ => True) (W + 2500) u' → Q 1 u') : w_R_trap x (bI b) u (zEnd Q) := Z_gen (op := (fun S => opTrap S x b)) (wop := w_R_trap x (bI b) u) h (hR_trap ) (fun a S' e => trap_lt e) k0 k1
theorem Z_flock {x : Int32} (h : IN S hi sv y W u) (k0 : ∀ u', IN S hi sv (fun _ => True) (W + 2500) u' → Q 0 u') (k1 : ∀ S' u', IN S' (push hi S) sv (fun _ => True) (W + 2500) u' → Q 1 u') : w_R_flock x u (zEnd Q) := Z_gen (op := (fun S => opFlock S x)) (wop := w_R_flock x u) h (hR_flock ) (fun a S' e => flock_lt h.ok e) k0 k1
theorem Z_begin {x : Int32} (h : IN S hi sv y W u) (k0 : ∀ u', IN S hi sv (fun _ => True) (W + 2500) u' → Q 0 u') (k1 : ∀ S' u', IN S' (push hi S) sv (fun _ => True) (W + 2500) u' → Q 1 u') : w_R_begin x u (zEnd Q) := Z_gen (op := (fun S => opBegin S x)) (wop := w_R_begin x u) h (hR_begin ) (fun a S' e => begin_lt e) k0 k1
theorem Z_move {x x2 : Int32} (h : IN S hi sv y W u) (k0 : ∀ u', IN S hi sv (fun _ => True) (W + 2500) u' → Q 0 u') (k1 : ∀ S' u', IN S' (push hi S) sv (fun _ => True) (W + 2500) u' → Q 1 u') : w_R_move x x2 u (zEnd Q) := Z_gen (op := (fun S => opMove S x x2)) (wop := w_R_move x x2 u) h (hR_move ) (fun a S' e => move_lt e) k0 k1
theorem Z_play {x : Int32} (hW : W + 40 < 2 ^ 20) (h : IN S hi sv y W u) (k0 : ∀ u', IN S hi sv (fun _ => True) (W + 2500) u' → Q 0 u') (k1 : ∀ S' u', IN S' (push hi S) sv (fun _ => True) (W + 2500) u' → Q 1 u') : w_R_play x u (zEnd Q) := Z_gen (op := (fun S => opPlay S x)) (wop := w_R_play x u) h (hR_play hW ) (fun a S' e => play_lt e) k0 k1
theorem Z_back (h : IN S hi sv y W u) (k0 : ∀ u', IN S hi sv (fun _ => True) (W + 2500) u' → Q 0 u') (k1 : ∀ S' u', IN S' (push hi S) sv (fun _ => True) (W + 2500) u' → Q 1 u') : w_R_back  u (zEnd Q) := Z_gen (op := opBack) (wop := w_R_back  u) h (hR_back ) (fun a S' e => back_lt h.ok e) k0 k1
theorem Z_does {bs : List Int32} (hb : bs.length ≤ 60) (h : IN S hi sv y W u) (hW : W + 2500 < 2 ^ 20) (k0 : ∀ u', IN S hi sv (fun _ => True) (W + 2500) u' → Q 0 u') (k1 : ∀ S' u', IN S' (push hi S) sv (fun _ => True) (W + 2500) u' → Q 1 u') : w_R_does bs u (zEnd Q) := by
  have hc : chT (bs.map zChr) := ⟨by rw [List.length_map]; exact hb, fun x hx => by
    obtain ⟨z, _, e⟩ := List.mem_map.mp hx
    rw [← e]
    exact zCh z⟩
  have hp := (prs_ok hc 31 0 (by decide)).1
  exact N_does hb h hW (fun p u' e h' f' => ⟨fun _ => k0 u' h'.any, fun z => absurd (by decide) z⟩) (fun w d i u' e e2 h' f' => ⟨fun _ => k0 u' h'.any, fun z => absurd (by decide) z⟩) (fun S' u' e e2 h' => ⟨fun z => absurd z (nI_pos (by omega)), fun _ => k1 S' u' h'⟩)
theorem zDg_le (v : Nat) : 1 ≤ zDg v ∧ zDg v ≤ 4 := by
  unfold zDg
  split
  · omega
  · split
    · omega
    · split <;> omega
theorem zB242 {x : Int32} {s0 s1 : Int32} (h : IN S hi sv y W u) (k0 : ∀ u', IN S hi sv (fun _ => True) (W + 2500) u' → Q 0 u') (k1 : ∀ S' u', IN S' (push hi S) sv (fun _ => True) (W + 2500) u' → Q 1 u') : wb_R_changes_242 Q x s0 s1 u := by
  unfold wb_R_changes_242
  exact Z_begin h k0 k1
theorem zE0 : (zLitB.getD 0 []).length = 1 := rfl
theorem zE1 : (zLitB.getD 1 []).length = 3 := rfl
theorem zE2 : (zLitB.getD 2 []).length = 1 := rfl
theorem zE3 : (zLitB.getD 3 []).length = 2 := rfl
set_option maxRecDepth 100000 in
set_option maxHeartbeats 2000000 in
theorem changes_ok {x : Int32} (h0 : IN S hi sv y W u) (hW : W + 4000 < 2 ^ 20) (k0 : ∀ u', IN S hi sv (fun _ => True) (W + 3000) u' → Q 0 u') (k1 : ∀ S' u', IN S' (push hi S) sv (fun _ => True) (W + 3000) u' → Q 1 u') : w_R_changes x u Q := by
  have hn := h0.ok.1
  unfold w_R_changes
  refine N_account ⟨by decide, by decide⟩ h0 (by omega) (fun u1 h1 => ?_)
  rw [acc_0, nI_1]
  refine R_some (by omega) (by omega) (fun a ha => ?_)
  refine N_account ⟨by decide, by decide⟩ h1 (by omega) (fun u2 h => ?_)
  rw [acc_0, nI_1]
  refine R_some (by omega) (by omega) (fun b hb => ?_)
  refine R_some (n := 20) (by decide) (by decide) (fun c hc => ?_)
  have j0 : ∀ u', IN S hi sv (fun _ => True) (W + 40 + 40 + 2500) u' → Q 0 u' := fun u' h' => k0 u' (h'.le (by omega))
  have j1 : ∀ S' u', IN S' (push hi S) sv (fun _ => True) (W + 40 + 40 + 2500) u' → Q 1 u' := fun S' u' h' => k1 S' u' (h'.le (by omega))
  have i0 : ∀ u', IN S hi sv (fun _ => True) (W + 40 + 40 + 40 + 2500) u' → Q 0 u' := fun u' h' => k0 u' (h'.le (by omega))
  have i1 : ∀ S' u', IN S' (push hi S) sv (fun _ => True) (W + 40 + 40 + 40 + 2500) u' → Q 1 u' := fun S' u' h' => k1 S' u' (h'.le (by omega))
  refine ⟨fun _ => Z_dig h j0 j1, fun _ => ⟨fun _ => Z_tread h j0 j1, fun _ => ⟨fun _ => Z_tread h j0 j1, fun _ => ⟨fun _ => Z_tread h j0 j1, fun _ => ⟨fun _ => Z_grow h j0 j1, fun _ => ⟨fun _ => ?_, fun _ => ⟨fun _ => ?_, fun _ => ⟨fun _ => ?_, fun _ => ⟨fun _ => ?_, fun _ => ⟨fun _ => ?_, fun _ => ⟨fun _ => ?_, fun _ => ⟨fun _ => ?_, fun _ => ⟨fun _ => ?_, fun _ => ⟨fun _ => ?_, fun _ => ⟨fun _ => Z_back h j0 j1, fun _ => ⟨fun _ => ?_, fun _ => ⟨fun _ => ?_, fun _ => Z_move h j0 j1⟩⟩⟩⟩⟩⟩⟩⟩⟩⟩⟩⟩⟩⟩⟩⟩⟩
  · unfold wb_R_changes_173
    exact ⟨fun _ => Z_trap (b := false) h j0 j1, fun _ => Z_trap (b := true) h j0 j1⟩
  · exact R_some (n := 4) (by decide) (by decide) (fun q hq => Z_flock h j0 j1)
  · exact N_account ⟨by decide, by decide⟩ h (by omega) (fun u3 h3 => ⟨fun _ => R_some (n := 8) (by decide) (by decide) (fun q hq => zB242 h3 i0 i1), fun _ => zB242 h3 i0 i1⟩)
  · exact N_account ⟨by decide, by decide⟩ h (by omega) (fun u3 h3 => ⟨fun _ => R_some (n := 8) (by decide) (by decide) (fun q hq => zB242 h3 i0 i1), fun _ => zB242 h3 i0 i1⟩)
  · exact N_account ⟨by decide, by decide⟩ h (by omega) (fun u3 h3 => ⟨fun _ => R_some (n := 8) (by decide) (by decide) (fun q hq => zB242 h3 i0 i1), fun _ => zB242 h3 i0 i1⟩)
  · exact N_account ⟨by decide, by decide⟩ h (by omega) (fun u3 h3 => ⟨fun _ => R_some (n := 8) (by decide) (by decide) (fun q hq => zB242 h3 i0 i1), fun _ => zB242 h3 i0 i1⟩)
  · exact R_some (n := 5) (by decide) (by decide) (fun q hq => Z_play (by omega) h j0 j1)
  · exact R_some (n := 5) (by decide) (by decide) (fun q hq => Z_play (by omega) h j0 j1)
  · exact R_some (n := 5) (by decide) (by decide) (fun q hq => Z_play (by omega) h j0 j1)
  · refine ⟨fun _ => ⟨by decide, R_some (n := 3) (by decide) (by decide) (fun v hv => ⟨v, rfl, by omega, by rw [zDg1 (by omega)]; decide, fun f a1 a2 a3 => ⟨by rw [zDg1 (by omega)]; decide, ⟨by rw [zDg1 (by omega)]; decide, sb_fitC (fun i => zLit_fit (q := 3) (by decide) i) (a3 (sb_fitC (fun i => zLit_fit (q := 2) (by decide) i) sb_fit0))⟩, ?_⟩⟩)⟩, fun _ => ⟨by decide, R_some (n := 8) (by decide) (by decide) (fun p hp => R_some (n := 8) (by decide) (by decide) (fun q hq => ?_))⟩⟩
    · obtain ⟨bs, hl, hf⟩ := zNo2 (0 + (zLitB.getD 2 []).length + zDg v + (zLitB.getD 3 []).length) (va_cpy (fun z => (zLitB.getD 3 []).getD z 0) f 0 (0 + (zLitB.getD 2 []).length + zDg v) (zLitB.getD 3 []).length)
      have hl2 : bs.length = 4 := by rw [hl, zDg1 (by omega)]; rfl
      exact ⟨bs, ⟨hl, hf⟩, by omega, Z_does (by omega) h (by omega) j0 j1⟩
    · have hz := zDg_le (162 * p + 18 * q)
      refine ⟨162 * p + 18 * q, by rw [show (162 : Int32) = nI 162 from rfl, show (18 : Int32) = nI 18 from rfl, pk_mul, pk_mul, nI_add], by omega, by rw [zE0]; omega, fun f a1 a2 a3 => ⟨by rw [zE0, zE1]; omega, ⟨by rw [zE0, zE1]; omega, sb_fitC (fun i => zLit_fit (q := 1) (by decide) i) (a3 (sb_fitC (fun i => zLit_fit (q := 0) (by decide) i) sb_fit0))⟩, ?_⟩⟩
      obtain ⟨bs, hl, hf⟩ := zNo2 (0 + (zLitB.getD 0 []).length + zDg (162 * p + 18 * q) + (zLitB.getD 1 []).length) (va_cpy (fun z => (zLitB.getD 1 []).getD z 0) f 0 (0 + (zLitB.getD 0 []).length + zDg (162 * p + 18 * q)) (zLitB.getD 1 []).length)
      have hl2 : bs.length ≤ 8 := by rw [hl, zE0, zE1]; omega
      exact ⟨bs, ⟨hl, hf⟩, by omega, Z_does (by omega) h (by omega) j0 j1⟩
  · refine ⟨fun _ => ⟨by decide, R_some (n := 3) (by decide) (by decide) (fun v hv => ⟨v, rfl, by omega, by rw [zDg1 (by omega)]; decide, fun f a1 a2 a3 => ⟨by rw [zDg1 (by omega)]; decide, ⟨by rw [zDg1 (by omega)]; decide, sb_fitC (fun i => zLit_fit (q := 3) (by decide) i) (a3 (sb_fitC (fun i => zLit_fit (q := 2) (by decide) i) sb_fit0))⟩, ?_⟩⟩)⟩, fun _ => ⟨by decide, R_some (n := 8) (by decide) (by decide) (fun p hp => R_some (n := 8) (by decide) (by decide) (fun q hq => ?_))⟩⟩
    · obtain ⟨bs, hl, hf⟩ := zNo2 (0 + (zLitB.getD 2 []).length + zDg v + (zLitB.getD 3 []).length) (va_cpy (fun z => (zLitB.getD 3 []).getD z 0) f 0 (0 + (zLitB.getD 2 []).length + zDg v) (zLitB.getD 3 []).length)
      have hl2 : bs.length = 4 := by rw [hl, zDg1 (by omega)]; rfl
      exact ⟨bs, ⟨hl, hf⟩, by omega, Z_does (by omega) h (by omega) j0 j1⟩
    · have hz := zDg_le (162 * p + 18 * q)
      refine ⟨162 * p + 18 * q, by rw [show (162 : Int32) = nI 162 from rfl, show (18 : Int32) = nI 18 from rfl, pk_mul, pk_mul, nI_add], by omega, by rw [zE0]; omega, fun f a1 a2 a3 => ⟨by rw [zE0, zE1]; omega, ⟨by rw [zE0, zE1]; omega, sb_fitC (fun i => zLit_fit (q := 1) (by decide) i) (a3 (sb_fitC (fun i => zLit_fit (q := 0) (by decide) i) sb_fit0))⟩, ?_⟩⟩
      obtain ⟨bs, hl, hf⟩ := zNo2 (0 + (zLitB.getD 0 []).length + zDg (162 * p + 18 * q) + (zLitB.getD 1 []).length) (va_cpy (fun z => (zLitB.getD 1 []).getD z 0) f 0 (0 + (zLitB.getD 0 []).length + zDg (162 * p + 18 * q)) (zLitB.getD 1 []).length)
      have hl2 : bs.length ≤ 8 := by rw [hl, zE0, zE1]; omega
      exact ⟨bs, ⟨hl, hf⟩, by omega, Z_does (by omega) h (by omega) j0 j1⟩
end ZH
