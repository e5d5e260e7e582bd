/-! THE LAW'S FIRST HALF: eight burrows, sixteen paths, undo, restore -/
def A00 : Ab := mkA (Sd 0) none [] [] [] none (-1)
theorem S00_ok : StOk A00.S := ⟨by decide, Or.inl rfl, by decide, ⟨by decide, fun q h => absurd h List.not_mem_nil, List.Pairwise.nil⟩, fun h p e => by cases e⟩
theorem A00_ok : AbOk A00 := ⟨S00_ok, fun S h => (by have h : (none : Option St) = some S := h; cases h), (by decide), fun S h => absurd h List.not_mem_nil, (by decide), fun x h => absurd h List.not_mem_nil, (by decide), fun x h => absurd h List.not_mem_nil, fun w d i h => (by have h : (none : Option (Int32 × (Int32 × Int32))) = some (w, (d, i)) := h; cases h)⟩
theorem near00 : ∀ b, b < 8 → u0 5 b = nI (A00.S.cfg.near b) := by decide +kernel
theorem CI_start : CI (fun _ => A00.S.cfg) 0 u0 A00 none 0 := by
  refine ⟨A00_ok, by decide +kernel, by decide +kernel, ⟨⟨by decide +kernel, by decide +kernel, by decide +kernel, near00⟩, by decide +kernel, fun i q h => ?_, by decide +kernel, ?_⟩, ⟨0, Nat.le_refl _, by decide +kernel, rfl⟩, by decide +kernel, ?_, ⟨by decide +kernel, 0, by decide, by decide +kernel, fun j S h => ?_⟩, trivial, Or.inl (by decide +kernel), Or.inl (by decide +kernel), Or.inl (by decide +kernel), ⟨by decide +kernel, fun i x h => ?_⟩, ⟨by decide +kernel, fun i x h => ?_⟩, ?_⟩
  · have h : ([] : List (Nat × Nat))[i]? = some q := h
    simp at h
  · show u0 6 0 = 0; decide +kernel
  · show u0 0 3 = 0; decide +kernel
  · have h : ([] : List St)[j]? = some S := h
    simp at h
  · have h : ([] : List Int32)[i]? = some x := h
    simp at h
  · have h : ([] : List Int32)[i]? = some x := h
    simp at h
  · show u0 116 0 = 0; decide +kernel
theorem IN_start : IN (Sd 0) [] none (fun _ => True) 0 u0 := ⟨_, 0, A00, Nat.le_refl _, CI_start, rfl, rfl, rfl, rfl, trivial⟩
def pth (k : Nat) : Nat × Nat := (k % 8, (k + 1 + k / 8) % 8)
def Sp (k : Nat) : St := mkS 8 0 2 ((List.range k).map pth) none 0
def Sg (i : Nat) : St := mkS i 0 2 [] none 0
def eD (n : Nat) : List St := (List.range n).map fun j => Sp (9 + j)
theorem eD_s (n : Nat) : eD (n + 1) = eD n ++ [Sp (9 + n)] := by unfold eD; rw [List.range_succ, List.map_append]; rfl
theorem eD_len (n : Nat) : (eD n).length = n := by unfold eD; rw [List.length_map, List.length_range]
theorem Sp_s (k : Nat) : Sp (k + 1) = mkS 8 0 2 ((List.range k).map pth ++ [pth k]) none 0 := by unfold Sp; rw [List.range_succ, List.map_append]; rfl
theorem pth_a : ∀ k, k < 16 → adjB ((List.range k).map pth) (k % 8) ((k + 1 + k / 8) % 8) = false ∧ ¬ k % 8 = (k + 1 + k / 8) % 8 := by decide +kernel
theorem pth_i : ∀ k, k < 16 → nI k - nI k / 8 * 8 = nI (k % 8) ∧ ((nI k + 1) + nI k / 8) - ((nI k + 1) + nI k / 8) / 8 * 8 = nI ((k + 1 + k / 8) % 8) := by decide +kernel
theorem Sp_has {k : Nat} (h : StOk (Sp k)) {a : Nat} (ha : a < 8) : hasI (Sp k).cfg (nI a) = true := by
  rw [hasI_nI h.cfg (by omega)]
  exact decide_eq_true (show a < 8 from ha)
theorem Sp_tread {k : Nat} (h : StOk (Sp k)) (hk : k < 16) : opTread (Sp k) (nI (k % 8)) (nI ((k + 1 + k / 8) % 8)) = .inr (k, Sp (k + 1)) := by
  obtain ⟨h1, h2⟩ := pth_a k hk
  unfold opTread
  rw [if_neg (by rw [Sp_has h (by omega)]; decide), if_neg (by rw [Sp_has h (by omega)]; decide), if_neg (fun z => h2 ((nI_eq (by omega) (by omega)).mp z)), show cl (nI (k % 8)) = k % 8 from nI_clamp (by omega), show cl (nI ((k + 1 + k / 8) % 8)) = (k + 1 + k / 8) % 8 from nI_clamp (by omega), show pix (k % 8) ((k + 1 + k / 8) % 8) (Sp k).ps 0 = none from (pix_none _ 0).mpr h1]
  have hl : (Sp k).ps.length = k := by show ((List.range k).map pth).length = k; rw [List.length_map, List.length_range]
  show (if (Sp k).ps.length < 16 then _ else _) = _
  rw [if_pos (by omega), hl, Sp_s]
  rfl
theorem Sp_full {h : StOk (Sp 16)} : opTread (Sp 16) 0 4 = .inl (2, 16) := by
  unfold opTread
  rw [show (0 : Int32) = nI 0 from nI_0.symm, show (4 : Int32) = nI 4 from rfl, if_neg (by rw [Sp_has h (by omega)]; decide), if_neg (by rw [Sp_has h (by omega)]; decide), if_neg (by decide), show cl (nI 0) = 0 by decide, show cl (nI 4) = 4 by decide, show pix 0 4 (Sp 16).ps 0 = none by decide +kernel]
  show (if (Sp 16).ps.length < 16 then _ else _) = _
  rw [if_neg (show ¬ (Sp 16).ps.length < 16 by decide +kernel)]
def Sx : St := mkS 8 0 2 ((Sp 16).ps.eraseIdx 8) none 0
theorem Sp_grow {h : StOk (Sp 16)} : opGrow (Sp 16) 0 2 = .inr (15, Sx) := by
  unfold opGrow
  rw [show (0 : Int32) = nI 0 from nI_0.symm, show (2 : Int32) = nI 2 from rfl, if_neg (by rw [Sp_has h (by omega)]; decide), if_neg (by rw [Sp_has h (by omega)]; decide), show cl (nI 0) = 0 by decide, show cl (nI 2) = 2 by decide, show pix 0 2 (Sp 16).ps 0 = some 8 by decide +kernel]
  show (.inr ((Sp 16).ps.length - 1, _) : Rs) = _
  rw [show (Sp 16).ps.length - 1 = 15 by decide +kernel]
  rfl
theorem Sp_336 : (lp (Sp 16).cfg).length = 336 := by decide +kernel
theorem Sp_a4 : rv (a_account (A0 (Sp 16)) 4) = 336 := by
  have e : a_account (A0 (Sp 16)) 4 = (0, (nI (lp (Sp 16).cfg).length, A0 (Sp 16))) := by
    unfold a_account accV
    rw [if_neg (by decide), if_neg (by decide), if_neg (by decide), if_neg (by decide), if_neg (by decide), if_neg (by decide), if_neg (by decide), if_neg (by decide), if_neg (by decide), if_neg (by decide), if_neg (by decide), if_pos rfl]
    rfl
  rw [e, Sp_336]
  rfl
theorem Sp_b1 {h : StOk (Sp 16)} : rv (a_burrowOf (A0 (Sp 16)) 0 0) = 4 := by
  have e : a_burrowOf (A0 (Sp 16)) 0 0 = (0, (nI (pcN ((Sp 16).cfg.near 0)), A0 (Sp 16))) := by
    unfold a_burrowOf burVal
    rw [if_neg (by rw [show (A0 (Sp 16)).S.cfg = (Sp 16).cfg from rfl, show (0 : Int32) = nI 0 from nI_0.symm, Sp_has h (by omega)]; decide), if_neg (by decide), if_neg (by decide), if_pos rfl]
    rfl
  rw [e, show pcN ((Sp 16).cfg.near 0) = 4 by decide +kernel]
  rfl
theorem Sp_b2 {h : StOk (Sp 16)} : rv (a_burrowOf (A0 (Sp 16)) 7 1) = 0 := by
  have e : a_burrowOf (A0 (Sp 16)) 7 1 = (0, (nI (pcN (abv 7 ((Sp 16).cfg.near 7))), A0 (Sp 16))) := by
    unfold a_burrowOf burVal
    rw [if_neg (by rw [show (A0 (Sp 16)).S.cfg = (Sp 16).cfg from rfl, show (7 : Int32) = nI 7 from rfl, Sp_has h (by omega)]; decide), if_neg (by decide), if_neg (by decide), if_neg (by decide), if_pos rfl]
    rfl
  rw [e, show pcN (abv 7 ((Sp 16).cfg.near 7)) = 0 by decide +kernel]
  rfl
theorem Sx_p {x : Int32} {b : Bool} {q : Nat × Nat} {v : Int32} (h0 : ¬ x < 0) (h1 : Sx.ps[cl x]? = some q) (hv : (if b = true then nI q.2 else nI q.1) = v) : rv (a_pathOf (A0 Sx) x b) = v := by
  unfold a_pathOf
  rw [if_neg h0, show (A0 Sx).S.ps[cl x]? = some q from h1]
  exact hv
section ZJ
variable {S : St} {hi : List St} {sv : Option St} {y : Why → Prop} {W : Nat} {u : MU} {B F : MU → Prop}
theorem N_account9 {Q : Int32 → MU → Prop} (h : IN S hi sv y W u) (hW : W + 40 < 2 ^ 20) (k : ∀ u', IN S hi sv y (W + 40) u' → Q (nI hi.length) u') : w_R_account 9 u Q := by
  obtain ⟨V, W1, A, w, c, e1, e2, e3, e4, e5⟩ := h
  have ea : a_account A 9 = (0, (nI hi.length, A)) := by
    unfold a_account accV
    rw [if_neg (by decide), if_neg (by decide), if_neg (by decide), if_neg (by decide), if_neg (by decide), if_neg (by decide), if_neg (by decide), if_neg (by decide), if_pos rfl, e2]
  refine R_account c (by omega) (fun V2 W2 u2 w2 c2 => ?_)
  rw [ea] at c2 ⊢
  exact k u2 ⟨V2, W2, A, by omega, c2, e1, e2, e3, e4, e5⟩
theorem N_isR {w d i : Int32} (h : IN S hi sv (fun z => z = some (w, (d, i))) W u) (k : ∀ u', IN S hi sv (fun z => z = some (w, (d, i))) (W + 120) u' → F u') : w_R_is w d i u (fun r u1 => (¬ r = 0 → F u1) ∧ (r = 0 → B u1)) := by
  unfold w_R_is
  refine N_reason h (Or.inl rfl) (fun u1 h1 => ⟨fun z => absurd rfl z, fun _ => N_reason h1 (Or.inr (Or.inl rfl)) (fun u2 h2 => ⟨fun z => absurd rfl z, fun _ => N_reason h2 (Or.inr (Or.inr rfl)) (fun u3 h3 => ⟨fun z => absurd rfl z, fun _ => ⟨fun _ => k u3 (h3.le (by omega)), fun z => absurd z (by decide)⟩⟩)⟩)⟩)
end ZJ
set_option maxRecDepth 100000 in
theorem fin_177 {W : Nat} {P : List St} {u : MU} (hlen : (P ++ eD 7).length = 8) (hW : W + 4000 < 2 ^ 20) (h : IN (Sp 16) (P ++ eD 7) (some (Sd 0)) (fun _ => True) W u) (xs : Nat → Int32) (L : Nat) : wl_R_lawe_177 xs L True 1 16 u := by
  have hok := h.ok
  rw [wl_R_lawe_177]
  refine ⟨fun _ => ?_, fun z => absurd (by decide) z⟩
  refine X_tread (F := _) (B := fun _ => False) h (Sp_full (h := hok)) (fun u1 h1 => ?_)
  refine N_is h1 (fun u2 h2 => ?_)
  refine N_account9 h2 (by omega) (fun u3 h3 => ⟨fun z => absurd (by rw [hlen]; rfl) z, fun _ => ?_⟩)
  refine N_account ⟨by decide, by decide⟩ h3 (by omega) (fun u4 h4 => ⟨fun z => absurd Sp_a4 z, fun _ => ?_⟩)
  refine N_burrowOf h4 (by omega) (fun u5 h5 => ⟨fun z => absurd (Sp_b1 (h := hok)) z, fun _ => ?_⟩)
  refine N_burrowOf h5 (by omega) (fun u6 h6 => ⟨fun z => absurd (Sp_b2 (h := hok)) z, fun _ => ?_⟩)
  refine D_grow h6 (Sp_grow (h := hok)) (by decide) (fun u7 h7 => ⟨fun z => absurd rfl z, fun _ => ?_⟩)
  have hpush : push (P ++ eD 7) (Sp 16) = eD 8 := by
    obtain ⟨P', e⟩ := push_app (P := P) (D := eD 7) (S := Sp 16) (by omega) (by rw [eD_len]; decide)
    have hl := (push_len (h := P ++ eD 7) (by omega) (Sp 16)).1
    have hl2 := (push_len (h := P ++ eD 7) (by omega) (Sp 16)).2
    rw [if_pos hlen, e, List.length_append, List.length_append, eD_len, List.length_singleton] at hl2
    have hP : P' = [] := List.length_eq_zero_iff.mp (by omega)
    rw [e, hP, List.nil_append, eD_s 7]
  rw [hpush, eD_s 7] at h7
  refine N_pathOf (b := false) h7 (by omega) (fun u8 h8 => ⟨fun z => absurd (Sx_p (q := (1, 3)) (by decide) (by decide +kernel) (by decide)) z, fun _ => ?_⟩)
  refine N_pathOf (b := true) h8 (by omega) (fun u9 h9 => ⟨fun z => absurd (Sx_p (q := (1, 3)) (by decide) (by decide +kernel) (by decide)) z, fun _ => ?_⟩)
  refine N_pathOf (b := true) h9 (by omega) (fun u10 h10 => ⟨fun _ => ?_, fun z => absurd (Sx_p (q := (7, 1)) (by decide) (by decide +kernel) (by decide)) z⟩)
  refine N_undo h10 (fun u11 h11 => ⟨fun z => absurd (by rw [eD_len]; rfl) z, fun _ => ?_⟩)
  refine N_account ⟨by decide, by decide⟩ h11 (by omega) (fun u12 h12 => ⟨fun z => absurd (by rw [acc_1]; decide +kernel) z, fun _ => ?_⟩)
  rw [eD_s 6] at h12
  refine N_undo h12 (fun u13 h13 => ⟨fun z => absurd (by rw [eD_len]; rfl) z, fun _ => ?_⟩)
  rw [eD_s 5] at h13
  refine N_undo h13 (fun u14 h14 => ⟨fun z => absurd (by rw [eD_len]; rfl) z, fun _ => ?_⟩)
  rw [eD_s 4] at h14
  refine N_undo h14 (fun u15 h15 => ⟨fun z => absurd (by rw [eD_len]; rfl) z, fun _ => ?_⟩)
  rw [eD_s 3] at h15
  refine N_undo h15 (fun u16 h16 => ⟨fun z => absurd (by rw [eD_len]; rfl) z, fun _ => ?_⟩)
  rw [eD_s 2] at h16
  refine N_undo h16 (fun u17 h17 => ⟨fun z => absurd (by rw [eD_len]; rfl) z, fun _ => ?_⟩)
  rw [eD_s 1] at h17
  refine N_undo h17 (fun u18 h18 => ⟨fun z => absurd (by rw [eD_len]; rfl) z, fun _ => ?_⟩)
  rw [eD_s 0] at h18
  refine N_undo h18 (fun u19 h19 => ⟨fun z => absurd (by rw [eD_len]; rfl) z, fun _ => ?_⟩)
  refine N_account ⟨by decide, by decide⟩ h19 (by omega) (fun u20 h20 => ⟨fun z => absurd (by rw [acc_1]; decide +kernel) z, fun _ => ?_⟩)
  refine N_undo0 h20 (fun u21 h21 => ⟨fun _ => ?_, fun z => absurd rfl z⟩)
  refine N_restore h21 (fun u22 h22 => ⟨fun z => absurd rfl z, fun _ => ?_⟩)
  refine N_account ⟨by decide, by decide⟩ h22 (by omega) (fun u23 h23 => ⟨fun z => absurd (by rw [acc_0]; rfl) z, fun _ => ?_⟩)
  refine N_account ⟨by decide, by decide⟩ h23 (by omega) (fun u24 h24 => ⟨fun z => absurd (by rw [acc_3]; rfl) z, fun _ => ?_⟩)
  exact N_undo0 h24 (fun u25 h25 => ⟨fun _ => trivial, fun z => absurd rfl z⟩)
set_option maxRecDepth 100000 in
theorem loop_177 (xs : Nat → Int32) (L : Nat) : ∀ (m k W : Nat) (P : List St) (u : MU), k + m = 16 → (P ++ eD (k - 9)).length = 8 → W + 40 * m + 4000 < 2 ^ 20 → IN (Sp k) (P ++ eD (k - 9)) (some (Sd 0)) (fun _ => True) W u → wl_R_lawe_177 xs L True (m + 1) (nI k) u := by
  intro m
  induction m with
  | zero =>
    intro k W P u hk hl hW h
    have : k = 16 := by omega
    subst this
    exact fin_177 hl (by omega) h xs L
  | succ m ih =>
    intro k W P u hk hl hW h
    have hk16 : k < 16 := by omega
    obtain ⟨i1, i2⟩ := pth_i k hk16
    rw [wl_R_lawe_177]
    refine ⟨fun z => absurd ((nI_leI (a := 16) (by omega) (by omega)).mp z) (by omega), fun _ => ?_⟩
    rw [i1, i2]
    refine D_tread h (Sp_tread h.ok hk16) (by omega) (fun u1 h1 => ⟨fun _ x2 e2 => ?_, fun z => absurd rfl z⟩)
    rw [nI_1] at e2
    subst e2
    have hpl := (push_len (h := P ++ eD (k - 9)) (by omega) (Sp k)).2
    rw [if_pos hl] at hpl
    obtain ⟨P', e⟩ : ∃ P', push (P ++ eD (k - 9)) (Sp k) = P' ++ eD (k + 1 - 9) := by
      by_cases h9 : 9 ≤ k
      · obtain ⟨P', e⟩ := push_app (P := P) (D := eD (k - 9)) (S := Sp k) (by omega) (by rw [eD_len]; omega)
        refine ⟨P', ?_⟩
        rw [e, show k + 1 - 9 = (k - 9) + 1 by omega, eD_s, show 9 + (k - 9) = k by omega]
      · refine ⟨push (P ++ eD (k - 9)) (Sp k), ?_⟩
        rw [show k + 1 - 9 = 0 by omega, show eD 0 = [] from rfl, List.append_nil]
    rw [e] at h1 hpl
    exact ih (k + 1) (W + 40) P' u1 (by omega) hpl (by omega) h1
set_option maxRecDepth 100000 in
theorem loop_130 (xs : Nat → Int32) (L : Nat) : ∀ (m i W : Nat) (hi : List St) (u : MU), i + m = 8 → (hi.length = 8 ∨ hi.length = i + 1) → W + 40 * m + 6000 < 2 ^ 20 → IN (Sg i) hi (some (Sd 0)) (fun _ => True) W u → wl_R_lawe_130 xs L True (m + 1) (nI i) u := by
  intro m
  induction m with
  | zero =>
    intro i W hi u hi8 hl hW h
    have h8 := h.h8
    have : i = 8 := by omega
    subst this
    rw [wl_R_lawe_130]
    refine ⟨fun _ => ?_, fun z => absurd (by decide) z⟩
    have e : opDig (Sg 8) = .inl (2, 8) := by unfold opDig; rw [if_neg (show ¬ (Sg 8).n < 8 by decide)]
    refine X_dig (B := fun _ => False) h e (fun u1 h1 => ?_)
    refine N_isR (B := fun _ => False) h1 (fun u2 h2 => ⟨17, by decide, ?_⟩)
    refine loop_177 xs L 16 0 _ hi u2 rfl ?_ (by omega) (IN.app0 h2.any)
    show (hi ++ []).length = 8
    rw [List.append_nil]
    omega
  | succ m ih =>
    intro i W hi u hi8 hl hW h
    have h8 := h.h8
    rw [wl_R_lawe_130]
    refine ⟨fun z => absurd ((nI_leI (a := 8) (by omega) (by omega)).mp z) (by omega), fun _ => ?_⟩
    have e : opDig (Sg i) = .inr (i, Sg (i + 1)) := by
      unfold opDig
      rw [if_pos (show (Sg i).n < 8 from (show i < 8 by omega))]
      rfl
    have hpl := (push_len h8 (Sg i)).2
    refine D_dig h e (by omega) (fun u1 h1 => ⟨fun _ x2 e2 => ?_, fun z => absurd rfl z⟩)
    rw [nI_1] at e2
    subst e2
    exact ih (i + 1) (W + 40) _ u1 (by omega) (by split at hpl <;> omega) (by omega) h1
def tx (i : Nat) : List Int32 := (List.range i).map fun j => nI (65 + j)
theorem tx_len (i : Nat) : (tx i).length = i := by unfold tx; rw [List.length_map, List.length_range]
theorem tx_s (i : Nat) : tx (i + 1) = tx i ++ [nI (65 + i)] := by unfold tx; rw [List.range_succ, List.map_append]; rfl
theorem tx_c : ∀ i, i < 60 → (((65 : Int32) + nI i).toUInt32 % 65536).toInt32 = nI (65 + i) := by decide +kernel
theorem tx_p : (prs (tx 60) 31 0).2 = some 0 := by decide +kernel
theorem acc_10 (A : Ab) : a_account A 10 = (0, (nI A.text.length, A)) := by
  unfold a_account accV
  rw [if_neg (by decide), if_neg (by decide), if_neg (by decide), if_neg (by decide), if_neg (by decide), if_neg (by decide), if_neg (by decide), if_neg (by decide), if_neg (by decide), if_pos rfl]
set_option maxRecDepth 100000 in
theorem loop_48 (xs : Nat → Int32) (L : Nat) {A : Ab} {W0 : Nat} (hA : A.S = Sg 0 ∧ A.hist.length = 1 ∧ A.sv = some (Sd 0)) (hW0 : W0 + 30000 < 2 ^ 20) : ∀ (m i : Nat) (V : Nat → Cfg) (W : Nat) (u : MU), i + m = 60 → W ≤ W0 + 40 * i → CI V W u (A.setT (tx i)) none 0 → wl_R_lawe_48 xs L True (m + 1) (nI i) u := by
  intro m
  induction m with
  | zero =>
    intro i V W u him hw c
    have : i = 60 := by omega
    subst this
    rw [wl_R_lawe_48]
    refine ⟨fun _ => ?_, fun z => absurd (by decide) z⟩
    have ea : a_append (A.setT (tx 60)) (nI 100) = (1, (0, A.setT (tx 60))) := by
      unfold a_append
      rw [show (A.setT (tx 60)).text = tx 60 from rfl, if_neg (show ¬ (tx 60).length < 60 by rw [tx_len]; decide)]
    refine R_append ⟨100, by decide, rfl⟩ c (fun V1 W1 u1 w1 c1 => ?_)
    rw [ea] at c1 ⊢
    refine ⟨fun z => absurd rfl z, fun _ => ?_⟩
    refine R_account c1 (by omega) (fun V2 W2 u2 w2 c2 => ?_)
    rw [acc_10] at c2 ⊢
    refine ⟨fun z => absurd (show nI (tx 60).length = 60 by rw [tx_len]; rfl) z, fun _ => ?_⟩
    have ec : a_commands (A.setT (tx 60)) = (1, (0, ((A.setT (tx 60)).setT []).setF (nI 0))) := by
      unfold a_commands
      rw [show (A.setT (tx 60)).text = tx 60 from rfl, tx_p]
    refine R_commands c2 (by omega) (fun V3 W3 u3 w3 c3 => ?_)
    rw [show a_commands (1, 0, A.setT (tx 60)).2.2 = a_commands (A.setT (tx 60)) from rfl] at c3 ⊢
    rw [ec] at c3 ⊢
    refine ⟨fun z => absurd rfl z, fun _ => ?_⟩
    unfold w_X9_faultPosition
    have hf : u3 0 13 = nI 0 := c3.M.1
    rw [hf]
    refine ⟨fun z => absurd rfl z, fun _ => ?_⟩
    refine R_account c3 (by omega) (fun V4 W4 u4 w4 c4 => ?_)
    rw [acc_10] at c4 ⊢
    refine ⟨fun _ => ⟨9, by decide, ?_⟩, fun z => absurd rfl z⟩
    exact loop_130 xs L 8 0 W4 A.hist u4 rfl (Or.inr hA.2.1) (by omega) ⟨V4, W4, _, Nat.le_refl _, c4, hA.1, rfl, hA.2.2, rfl, trivial⟩
  | succ m ih =>
    intro i V W u him hw c
    rw [wl_R_lawe_48]
    refine ⟨fun z => absurd ((nI_leI (a := 60) (by omega) (by omega)).mp z) (by omega), fun _ => ?_⟩
    rw [tx_c i (by omega)]
    have ea : a_append (A.setT (tx i)) (nI (65 + i)) = (0, (nI (i + 1), A.setT (tx (i + 1)))) := by
      unfold a_append
      rw [show (A.setT (tx i)).text = tx i from rfl, tx_len, if_pos (by omega), tx_s]
      rfl
    refine R_append ⟨65 + i, by omega, rfl⟩ c (fun V1 W1 u1 w1 c1 => ?_)
    rw [ea] at c1 ⊢
    refine ⟨fun _ x2 e2 => ?_, fun z => absurd (show nI (i + 1) = nI i + 1 by rw [nI_1]) z⟩
    rw [nI_1] at e2
    subst e2
    exact ih (i + 1) V1 W1 u1 (by omega) (by omega) c1
set_option maxRecDepth 100000 in
theorem lawe_ok (xs : Nat → Int32) (L : Nat) : wb_R_lawe_8 xs L True u0 := by
  unfold wb_R_lawe_8
  refine N_undo0 IN_start (fun u1 h1 => ⟨fun z => absurd rfl z, fun _ => ?_⟩)
  refine N_restore0 h1 (fun u2 h2 => ⟨fun z => absurd rfl z, fun _ => ?_⟩)
  refine N_save h2 (fun u3 h3 => ⟨fun z => absurd rfl z, fun _ => ?_⟩)
  have e : opFlock (Sd 0) 2 = .inr (1, Sg 0) := by
    unfold opFlock
    rw [if_neg (by decide), if_neg (by decide), if_neg (by decide)]
    rfl
  refine D_flock h3 e (by decide) (fun u4 h4 => ⟨fun _ => ⟨61, by decide, ?_⟩, fun z => absurd rfl z⟩)
  obtain ⟨V, W, A, w, c, e1, e2, e3, e4, _⟩ := h4
  refine loop_48 xs L (A := A) (W0 := W) ⟨e1, by rw [e2]; rfl, e3⟩ (by omega) 60 0 V W u4 rfl (by omega) ?_
  rw [show A.setT (tx 0) = A by show A.setT [] = A; rw [← e4]; rfl]
  exact c
/-- THE PURE STATEMENT -/
theorem pure_ok : zPure := fun L xs hL => ⟨lawe_ok xs L, lawa_ok hL IN_start⟩
