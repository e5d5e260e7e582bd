/-! REFUSED -/
section ZT
variable {S : St} {hi : List St} {sv : Option St} {y : Why → Prop} {W : Nat} {u : MU} {B F : MU → Prop}
theorem N_doesQ {bs : List Int32} {p : Nat} (hb : bs.length ≤ 60) (h : IN S hi sv y W u) (hW : W + 2500 < 2 ^ 20) (e : (prs (bs.map zChr) 31 0).2 = some p) (k : ∀ u', IN S hi sv y (W + 2500) u' → u' 0 13 = nI p → F u') : w_R_does bs u (fun r u1 => (¬ r = (-1001 : Int32) → B u1) ∧ (r = (-1001 : Int32) → F u1)) :=
  N_does hb h hW (fun p' u' e' h' f' => by
    rw [e] at e'
    cases e'
    exact ⟨fun z => absurd rfl z, fun _ => k u' h' f'⟩) (fun w d i u' e' => by rw [e] at e'; cases e') (fun S' u' e' => by rw [e] at e'; cases e')
theorem N_doesI {bs : List Int32} {w d : Int32} {i : Nat} (hb : bs.length ≤ 60) (h : IN S hi sv y W u) (hW : W + 2500 < 2 ^ 20) (e : (prs (bs.map zChr) 31 0).2 = none) (er : runC S (prs (bs.map zChr) 31 0).1 0 = .inl (w, (d, i))) (k : ∀ u', IN S hi sv (fun z => z = some (w, (d, nI i))) (W + 2500) u' → u' 0 13 = -1 → F u') : w_R_does bs u (fun r u1 => (¬ r = (-1002 : Int32) → B u1) ∧ (r = (-1002 : Int32) → F u1)) :=
  N_does hb h hW (fun p' u' e' => by rw [e] at e'; cases e') (fun w' d' i' u' _ e' h' f' => by
    rw [er] at e'
    cases e'
    exact ⟨fun z => absurd rfl z, fun _ => k u' h' f'⟩) (fun S' u' _ e' => by rw [er] at e'; cases e')
/-- the fault stays when reasons are asked -/
theorem N_reasonF {x : Int32} {w d i g : Int32} {Q : Int32 → MU → Prop} (h : IN S hi sv (fun z => z = some (w, (d, i))) W u) (hf : u 0 13 = g) (hx : x = 0 ∨ x = 1 ∨ x = 2) (k : ∀ u', IN S hi sv (fun z => z = some (w, (d, i))) (W + 40) u' → u' 0 13 = g → Q (if x = 0 then w else if x = 1 then d else i) u') : w_R_reason x u Q := by
  obtain ⟨V, W1, A, w1, c, e1, e2, e3, e4, e5⟩ := h
  have ea : a_reason A x = (0, (if x = 0 then w else if x = 1 then d else i, A)) := by
    unfold a_reason
    rw [if_neg (by rcases hx with rfl | rfl | rfl <;> decide), if_neg (by rcases hx with rfl | rfl | rfl <;> decide), e5]
  have ef : A.fault = g := c.M.1.symm.trans hf
  refine R_reason c (fun V2 W2 u2 w2 c2 => ?_)
  rw [ea] at c2 ⊢
  exact k u2 ⟨V2, W2, A, by omega, c2, e1, e2, e3, e4, e5⟩ (c2.M.1.trans ef)
theorem N_isF {w d i g : Int32} (h : IN S hi sv (fun z => z = some (w, (d, i))) W u) (hf : u 0 13 = g) (k : ∀ u', IN S hi sv (fun z => z = some (w, (d, i))) (W + 120) u' → u' 0 13 = g → F u') : w_R_is w d i u (fun r u1 => (r = 0 → B u1) ∧ (¬ r = 0 → F u1)) := by
  unfold w_R_is
  refine N_reasonF h hf (Or.inl rfl) (fun u1 h1 f1 => ⟨fun z => absurd rfl z, fun _ => N_reasonF h1 f1 (Or.inr (Or.inl rfl)) (fun u2 h2 f2 => ⟨fun z => absurd rfl z, fun _ => N_reasonF h2 f2 (Or.inr (Or.inr rfl)) (fun u3 h3 f3 => ⟨fun z => absurd rfl z, fun _ => ⟨fun z => absurd z (by decide), fun _ => k u3 (h3.le (by omega)) f3⟩⟩)⟩)⟩)
end ZT
set_option maxRecDepth 100000 in
set_option maxHeartbeats 1000000 in
theorem ref_930 {S : St} {hi : List St} {sv : Option St} {W : Nat} {u : MU} {Q : Int32 → MU → Prop} (hn : 3 ≤ S.n) (hg : S.game = none) (hp : ∃ j, pix 1 0 S.ps 0 = some j) (h : IN S hi sv (fun _ => True) W u) (hW : W + 40000 < 2 ^ 20) (k : ∀ u', IN S hi sv (fun _ => True) (W + 40000) u' → Q 1 u') : wb_R_refused_930 Q (asksV S) (nI S.geese) 1 u := by
  have hok := h.ok
  have hgs := hok.2.1
  have rest : ∀ (d : Nat) (W1 : Nat) (u1 : MU), d + S.geese = 3 → W1 + 35000 < 2 ^ 20 → W1 + 35000 ≤ W + 40000 → IN S hi sv (fun _ => True) W1 u1 → w_R_does (tG d) u1 (fun r_16 u_17 => ((¬ r_16 = (-1002 : Int32)) → Q (0 : Int32) u_17) ∧ ((r_16 = (-1002 : Int32)) → w_R_is (5 : Int32) (0 : Int32) (1 : Int32) u_17 (fun r_20 u_21 => ((r_20 = 0) → Q (0 : Int32) u_21) ∧ ((¬ r_20 = 0) → w_R_e (-1 : Int32) u_21 (fun r_23 u_24 => ((r_23 = 0) → Q (0 : Int32) u_24) ∧ ((¬ r_23 = 0) → w_R_does (zLitB.getD 6 []) u_24 (fun r_26 u_27 => ((¬ r_26 = (-1002 : Int32)) → Q (0 : Int32) u_27) ∧ ((r_26 = (-1002 : Int32)) → w_R_is (7 : Int32) (9999 : Int32) (2 : Int32) u_27 (fun r_29 u_30 => ((r_29 = 0) → Q (0 : Int32) u_30) ∧ ((¬ r_29 = 0) → w_R_asks  u_30 (fun r_32 u_33 => ((¬ (lg_cmp r_32 (asksV S)) = 0) → Q (0 : Int32) u_33) ∧ (((lg_cmp r_32 (asksV S)) = 0) → Q (1 : Int32) u_33)))))))))))) := by
    intro d W1 u1 hd hw1 hw2 h1
    have hd2 : d = 1 ∨ d = 2 := by omega
    have ep : prs ((tG d).map zChr) 31 0 = ([(103, (d, 0)), (103, (d, 0))], none) := by
      rcases hd2 with e | e <;> subst e
      · exact pr_G1
      · exact pr_G2
    have er := runG hok hd
    refine N_doesI (w := 5) (d := 0) (i := 1) (show 5 ≤ 60 by decide) h1 (by omega) (by rw [ep]) (by rw [ep]; exact er) (fun u2 h2 e2 => ?_)
    refine N_isF (d := 0) h2 e2 (fun u3 h3 e3 => ?_)
    refine N_e e3 ?_
    have er2 := runX hok hn hp
    refine N_doesI (bs := zLitB.getD 6 []) (w := 7) (d := 9999) (i := 2) (by decide) h3 (by omega) (by rw [show zLitB.getD 6 [] = tX from rfl, pr_X]) (by rw [show zLitB.getD 6 [] = tX from rfl, pr_X]; exact er2) (fun u4 h4 e4 => ?_)
    refine N_is h4 (fun u5 h5 => ?_)
    refine N_asks h5 (by omega) (fun u6 h6 => ⟨fun z => absurd (by rw [lg_cmp_eq]) z, fun _ => k u6 (h6.any.le (by omega))⟩)
  have e113 : zLitB.getD 4 [] = tQ := rfl
  unfold wb_R_refused_930
  refine ⟨fun z => absurd z (by decide), fun _ => ?_⟩
  refine N_doesQ (p := 0) (by decide) h (by omega) (by rw [e113]; exact pr_Q) (fun u1 h1 e1 => ?_)
  refine N_e (by rw [e1]; rfl) ?_
  obtain ⟨d, hd⟩ : ∃ d, d + S.geese = 3 := ⟨3 - S.geese, by omega⟩
  have hd2 : d = 1 ∨ d = 2 := by omega
  have hd10 : d < 10 := by omega
  have ed : (3 : Int32) - nI S.geese = nI d := by
    rcases hgs with e | e
    · have : d = 2 := by omega
      subst this
      rw [e]; decide
    · have : d = 1 := by omega
      subst this
      rw [e]; decide
  refine ⟨by decide, d, ed, by omega, by rw [zDg1 hd10]; decide, fun f10 a1 a2 a3 => ?_⟩
  rw [zDg1 hd10]
  refine ⟨by decide, d, ed, by omega, by rw [zDg1 hd10]; decide, fun f13 b1 b2 b3 => ?_⟩
  have fit0 : sb_Fit (va_cpy (fun z => (zLitB.getD 2 []).getD z 0) (fun _ => 0) 0 0 (zLitB.getD 2 []).length) := sb_fitC (fun i => zLit_fit (q := 2) (by decide) i) sb_fit0
  have fit1 := a3 fit0
  have fit2 : sb_Fit f13 := b3 (sb_fitC (fun i => zLit_fit (q := 5) (by decide) i) fit1)
  have g0 : f10 0 = 103 := by rw [a1 0 (by decide)]; rfl
  have g1 : f10 1 = nI (48 + d) := a2 hd10
  refine ⟨⟨by rw [zDg1 hd10]; decide, fit2⟩, tG d, ⟨by rw [zDg1 hd10]; rfl, fun j hj => ?_⟩, show 5 < 100 by decide, rest d _ u1 hd ?_ ?_ (h1.any)⟩
  · have hj5 : j < 5 := hj
    rcases (show j = 0 ∨ j = 1 ∨ j = 2 ∨ j = 3 ∨ j = 4 by omega) with e | e | e | e | e <;> subst e
    · rw [b1 0 (by decide)]; exact g0
    · rw [b1 1 (by decide)]; exact g1
    · rw [b1 2 (by decide)]; rfl
    · rw [b1 3 (by decide)]; rfl
    · exact b2 hd10
  · omega
  · omega
set_option maxRecDepth 100000 in
set_option maxHeartbeats 1000000 in
theorem ref_566 {S : St} {hi : List St} {sv : Option St} {W : Nat} {u : MU} {Q : Int32 → MU → Prop} {s0 : Int32} (EP : rv (a_position (A0 S) 0 1 s0 true) = -1001) (hn : 3 ≤ S.n) (hg : S.game = none) (hp : ∃ j, pix 1 0 S.ps 0 = some j) (h : IN S hi sv (fun z => z = some (1, (0, 0))) W u) (hW : W + 42000 < 2 ^ 20) (k : ∀ u', IN S hi sv (fun _ => True) (W + 42000) u' → Q 1 u') : wb_R_refused_566 Q (asksV S) (nI S.n) (nI S.geese) s0 1 0 u := by
  have hok := h.ok
  unfold wb_R_refused_566
  refine N_position (b := true) h (by omega) (fun u1 h1 => ⟨fun z => absurd (EP) z, fun _ => ?_⟩)
  refine N_positionOf h1 (by omega) (fun u2 h2 => ⟨fun z => absurd (v_po1 (Or.inr (by decide))) z, fun _ => ?_⟩)
  refine N_positionOf h2 (by omega) (fun u3 h3 => ⟨fun z => absurd (v_po1 (Or.inl (by decide))) z, fun _ => ?_⟩)
  refine N_positionOf h3 (by omega) (fun u4 h4 => ⟨fun z => absurd (v_po2 p_0) z, fun _ => ?_⟩)
  refine N_positionOf h4 (by omega) (fun u5 h5 => ⟨fun z => absurd (v_po2 (p_neg (by decide))) z, fun _ => ?_⟩)
  refine N_outcomeAgain h5 (by omega) (fun u6 h6 => ⟨fun z => absurd (v_oa p_0) z, fun _ => ?_⟩)
  refine N_outcomeAgain h6 (by omega) (fun u7 h7 => ⟨fun z => absurd (v_oa (p_big (p := 5000) (by decide) (by decide))) z, fun _ => ?_⟩)
  refine N_moveOf (b := true) h7 (by omega) (fun u8 h8 => ⟨fun z => absurd (v_mo p_0) z, fun _ => ?_⟩)
  refine N_best h8 (by omega) (fun u9 h9 => ⟨fun z => absurd (v_be (p_neg (by decide))) z, fun _ => ?_⟩)
  refine N_after h9 (by omega) (fun u10 h10 => ⟨fun z => absurd (v_af p_0) z, fun _ => ?_⟩)
  refine N_ending h10 (by omega) (fun u11 h11 => ⟨fun z => absurd (v_en (p_big (p := 1296) (by decide) (by decide))) z, fun _ => ?_⟩)
  refine N_count (b := true) h11 (by omega) (fun u12 h12 => ⟨fun z => absurd (v_co (Or.inl (by decide))) z, fun _ => ?_⟩)
  refine N_count (b := true) h12 (by omega) (fun u13 h13 => ⟨fun z => absurd (v_co (Or.inr (by decide))) z, fun _ => ?_⟩)
  refine N_wonIn h13 (by omega) (fun u14 h14 => ⟨fun z => absurd (v_wi (by decide)) z, fun _ => ?_⟩)
  refine N_wouldChange h14 (by omega) (fun u15 h15 => ⟨fun z => absurd (v_w1 hok) z, fun _ => ?_⟩)
  refine N_wouldChange h15 (by omega) (fun u16 h16 => ⟨fun z => absurd (v_w2 hok hn) z, fun _ => ?_⟩)
  refine N_wouldChange h16 (by omega) (fun u17 h17 => ⟨fun z => absurd (v_w3 hok hn) z, fun _ => ?_⟩)
  refine N_bestBurrow h17 (by omega) (fun u18 h18 => ⟨fun z => absurd (v_bb p_0) z, fun _ => ?_⟩)
  refine N_burrowOf h18 (by omega) (fun u19 h19 => ⟨fun z => absurd (v_b1 hok) z, fun _ => ?_⟩)
  refine N_burrowOf h19 (by omega) (fun u20 h20 => ⟨fun z => absurd (v_b2 hok hn (Or.inr (by decide))) z, fun _ => ?_⟩)
  refine N_burrowOf h20 (by omega) (fun u21 h21 => ⟨fun z => absurd (v_b2 hok hn (Or.inl (by decide))) z, fun _ => ?_⟩)
  refine N_account ⟨by decide, by decide⟩ h21 (by omega) (fun u22 h22 => ?_)
  rw [acc_1]
  refine N_pathOf (b := true) h22 (by omega) (fun u23 h23 => ⟨fun z => absurd (v_pa hok) z, fun _ => ?_⟩)
  refine N_pathOf (b := true) h23 (by omega) (fun u24 h24 => ⟨fun z => absurd (v_pa2 (by decide)) z, fun _ => ?_⟩)
  refine N_reasonX h24 (Or.inr (by decide)) (fun u25 h25 => ⟨fun z => absurd rfl z, fun _ => ?_⟩)
  refine N_reasonX h25 (Or.inl (by decide)) (fun u26 h26 => ⟨fun z => absurd rfl z, fun _ => ?_⟩)
  refine N_characterX h26 (Or.inl (by decide)) (fun u27 h27 => ⟨fun z => absurd rfl z, fun _ => ?_⟩)
  refine N_characterX h27 (Or.inr (by decide)) (fun u28 h28 => ⟨fun z => absurd rfl z, fun _ => ?_⟩)
  refine N_account ⟨by decide, by decide⟩ h28 (by omega) (fun u29 h29 => ⟨fun z => absurd (v_ac (Or.inr (by decide))) z, fun _ => ?_⟩)
  refine N_account ⟨by decide, by decide⟩ h29 (by omega) (fun u30 h30 => ⟨fun z => absurd (v_ac (Or.inl (by decide))) z, fun _ => ?_⟩)
  refine N_is h30 (fun u31 h31 => ?_)
  exact ref_930 hn hg hp h31.any (by omega) (fun u9 h9 => k u9 (h9.le (by omega)))
set_option maxRecDepth 100000 in
set_option maxHeartbeats 1000000 in
theorem ref_507 {S : St} {hi : List St} {sv : Option St} {W : Nat} {u : MU} {Q : Int32 → MU → Prop} (hn : 3 ≤ S.n) (hg : S.game = none) (hp : ∃ j, pix 1 0 S.ps 0 = some j) (h : IN S hi sv (fun _ => True) W u) (hW : W + 42500 < 2 ^ 20) (k : ∀ u', IN S hi sv (fun _ => True) (W + 42500) u' → Q 1 u') : wb_R_refused_507 Q (asksV S) (nI S.n) (nI S.geese) 1 u := by
  have hok := h.ok
  unfold wb_R_refused_507
  refine ⟨fun z => absurd z (by decide), fun _ => ?_⟩
  refine X_play (by omega) h (fP (Or.inr (by decide))) (fun u1 h1 => ?_)
  refine N_position (b := true) h1 (by omega) (fun u2 h2 => ⟨fun z => absurd (v_pos (g_1 hok)) z, fun _ => ?_⟩)
  refine N_position (b := true) h2 (by omega) (fun u3 h3 => ⟨fun z => absurd (v_pos g_2) z, fun _ => ?_⟩)
  exact ⟨fun z => ref_566 (v_pos (g_3 hok z)) hn hg hp h3 (by omega) (fun u9 h9 => k u9 (h9.le (by omega))), fun z => ref_566 (v_pos (g_4 hok z)) hn hg hp h3 (by omega) (fun u9 h9 => k u9 (h9.le (by omega)))⟩
set_option maxRecDepth 100000 in
set_option maxHeartbeats 1000000 in
theorem ref_420 {S : St} {hi : List St} {sv : Option St} {W : Nat} {u : MU} {Q : Int32 → MU → Prop} (hn : 3 ≤ S.n) (hg : S.game = none) (hp : ∃ j, pix 1 0 S.ps 0 = some j) (h : IN S hi sv (fun _ => True) W u) (hW : W + 44000 < 2 ^ 20) (k : ∀ u', IN S hi sv (fun _ => True) (W + 44000) u' → Q 1 u') : wb_R_refused_420 Q (asksV S) (nI S.n) (nI S.geese) 1 u := by
  have hok := h.ok
  unfold wb_R_refused_420
  refine N_now h (by omega) (fun u1 h1 => ?_)
  rw [v_now hg]
  refine ⟨fun z => absurd z (by decide), fun _ => ⟨fun z => absurd z (by decide), fun _ => ?_⟩⟩
  refine X_move h1 (fM hg) (fun u2 h2 => ?_)
  refine N_is h2 (fun u3 h3 => ?_)
  refine X_play (by omega) h3 (fP1 hg) (fun u4 h4 => ?_)
  refine N_is h4 (fun u5 h5 => ?_)
  refine X_back h5 (fBk hg) (fun u6 h6 => ?_)
  refine N_is h6 (fun u7 h7 => ?_)
  unfold wb_R_refused_505
  exact ref_507 hn hg hp h7.any (by omega) (fun u9 h9 => k u9 (h9.le (by omega)))
set_option maxRecDepth 100000 in
set_option maxHeartbeats 1000000 in
theorem ref_213 {S : St} {hi : List St} {sv : Option St} {W : Nat} {u : MU} {Q : Int32 → MU → Prop} {b : Bool} (hb : S.traps.testBit 0 = b) (hn : 3 ≤ S.n) (hg : S.game = none) (hp : ∃ j, pix 1 0 S.ps 0 = some j) (h : IN S hi sv (fun _ => True) W u) (hW : W + 46500 < 2 ^ 20) (k : ∀ u', IN S hi sv (fun _ => True) (W + 46500) u' → Q 1 u') : wb_R_refused_213 Q (asksV S) (nI S.n) (nI S.geese) (bI b) 0 u := by
  have hok := h.ok
  unfold wb_R_refused_213
  refine X_trap h (fR2 hok hn hb) (fun u1 h1 => ?_)
  refine N_is h1 (fun u2 h2 => ?_)
  refine X_flock h2 (fF0) (fun u3 h3 => ?_)
  refine N_is h3 (fun u4 h4 => ?_)
  refine X_flock h4 (fF3) (fun u5 h5 => ?_)
  refine N_is h5 (fun u6 h6 => ?_)
  refine X_flock h6 (fFg hok) (fun u7 h7 => ?_)
  refine N_is h7 (fun u8 h8 => ?_)
  refine X_begin h8 (fB p_0) (fun u9 h9 => ?_)
  refine N_is h9 (fun u10 h10 => ?_)
  refine X_begin h10 (fB (p_neg (by decide))) (fun u11 h11 => ?_)
  refine N_is h11 (fun u12 h12 => ?_)
  refine X_begin h12 (fB (p_n hok)) (fun u13 h13 => ?_)
  refine N_is h13 (fun u14 h14 => ?_)
  refine X_play (by omega) h14 (fP (Or.inl (by decide))) (fun u15 h15 => ?_)
  refine N_is h15 (fun u16 h16 => ?_)
  refine X_play (by omega) h16 (fP (Or.inr (by decide))) (fun u17 h17 => ?_)
  refine N_is h17 (fun u18 h18 => ?_)
  exact ref_420 hn hg hp h18.any (by omega) (fun u9 h9 => k u9 (h9.le (by omega)))
set_option maxRecDepth 100000 in
set_option maxHeartbeats 1000000 in
theorem refused_ok {S : St} {hi : List St} {sv : Option St} {W : Nat} {u : MU} {Q : Int32 → MU → Prop} (hn : 3 ≤ S.n) (hg : S.game = none) (hp : ∃ j, pix 1 0 S.ps 0 = some j) (h : IN S hi sv (fun _ => True) W u) (hW : W + 80000 < 2 ^ 20) (k : ∀ u', IN S hi sv (fun _ => True) (W + 80000) u' → Q 1 u') : w_R_refused u Q := by
  have hok := h.ok
  unfold w_R_refused
  refine N_asks h (by omega) (fun u1 h1 => ?_)
  refine N_account ⟨by decide, by decide⟩ h1 (by omega) (fun u2 h2 => ?_)
  rw [acc_0]
  refine N_account ⟨by decide, by decide⟩ h2 (by omega) (fun u3 h3 => ?_)
  rw [acc_3]
  refine X_tread h3 (fT1 hok hn) (fun u4 h4 => ?_)
  refine N_is h4 (fun u5 h5 => ?_)
  refine X_tread h5 (fT2 hok hn) (fun u6 h6 => ?_)
  refine N_is h6 (fun u7 h7 => ?_)
  refine X_tread h7 (fT3 hok hn) (fun u8 h8 => ?_)
  refine N_is h8 (fun u9 h9 => ?_)
  refine X_tread h9 (fT4 hok hn hp) (fun u10 h10 => ?_)
  refine N_is h10 (fun u11 h11 => ?_)
  refine X_grow h11 (fG1) (fun u12 h12 => ?_)
  refine N_is h12 (fun u13 h13 => ?_)
  refine X_grow h13 (fG2 hok hn) (fun u14 h14 => ?_)
  refine N_is h14 (fun u15 h15 => ?_)
  refine X_grow h15 (fG3 hok hn) (fun u16 h16 => ?_)
  refine N_is h16 (fun u17 h17 => ?_)
  refine X_trap (b := true) h17 (fR1 hok) (fun u18 h18 => ?_)
  refine N_is h18 (fun u19 h19 => ?_)
  refine N_burrowOf h19 (by omega) (fun u20 h20 => ?_)
  rw [v_bur hok hn]
  cases hb : S.traps.testBit 0 with
  | false => exact ⟨fun _ => ref_213 (b := false) hb hn hg hp h20.any (by omega) (fun u9 h9 => k u9 (h9.le (by omega))), fun z => absurd z (by decide)⟩
  | true => exact ⟨fun z => absurd rfl z, fun _ => ref_213 (b := true) hb hn hg hp h20.any (by omega) (fun u9 h9 => k u9 (h9.le (by omega)))⟩
