/-! ASKS: a number of the state alone; what is kept stays, but for the line -/
def AGo (S : St) (K : Nat) (P : Ab → Prop) (F : (Int64 → MU → Prop) → MU → Prop) : Prop := ∃ v : Int64, ∀ (V : Nat → Cfg) (W : Nat) (u : MU) (A : Ab) (Q : Int64 → MU → Prop), CI V W u A none 0 → A.S = S → P A → W + K < 2 ^ 20 → (∀ V' W' u', W' ≤ W + K → CI V' W' u' (A.setL (lineT S.game)) none 0 → Q v u') → F Q u
theorem lineT_le {S : St} (h : StOk S) : (lineT S.game).length ≤ 159 := by
  unfold lineT
  cases e : S.game with
  | none => exact Nat.zero_le _
  | some g =>
    obtain ⟨hh, p⟩ := g
    show (hh.foldl lnAdd []).length ≤ 159
    rw [ln_len]
    have := (h.2.2.2.2 hh p e).1
    split <;> omega
theorem setL_self {A : Ab} {T : List Int32} (h : A.line = T) : A.setL T = A := by subst h; rfl
theorem acc_0 (S : St) : rv (a_account (A0 S) 0) = nI S.n := by
  unfold a_account accV
  rw [if_neg (by decide), if_neg (by decide), if_pos rfl]; rfl
theorem acc_1 (S : St) : rv (a_account (A0 S) 1) = nI S.ps.length := by
  unfold a_account accV
  rw [if_neg (by decide), if_neg (by decide), if_neg (by decide), if_pos rfl]; rfl
theorem acc_3 (S : St) : rv (a_account (A0 S) 3) = nI S.geese := by
  unfold a_account accV
  rw [if_neg (by decide), if_neg (by decide), if_neg (by decide), if_neg (by decide), if_neg (by decide), if_pos rfl]; rfl
set_option maxRecDepth 100000 in
theorem k360 {S : St} (h0 : StOk S) : ∀ (m i : Nat) (x1 : Int64), i + m = (lineT S.game).length → AGo S (40 * m + 200) (fun A => A.line = lineT S.game) (fun Q u => wl_R_asks_360 Q (m + 1) x1 (nI (lineT S.game).length) (nI i) u) := by
  have hl := lineT_le h0
  intro m
  induction m with
  | zero =>
    intro i x1 hi
    refine ⟨31 * (31 * (31 * (31 * x1 + (rv (a_longest (A0 S) false)).toInt64) + (rv (a_longest (A0 S) true)).toInt64) + (rv (a_wouldChange (A0 S) 0 1)).toInt64) + (rv (a_now (A0 S))).toInt64, fun V W u A Q hC hS hP hW hq => ?_⟩
    show wl_R_asks_360 Q (0 + 1) x1 (nI (lineT S.game).length) (nI i) u
    rw [wl_R_asks_360]
    refine ⟨fun _ => ?_, fun z => absurd (nI_le (by omega) (by omega)) z⟩
    exact R'_longest (b := false) hC hS (by omega) (fun V1 W1 u1 w1 c1 => R'_longest (b := true) c1 hS (by omega) (fun V2 W2 u2 w2 c2 => R'_wouldChange c2 hS (by omega) (fun V3 W3 u3 w3 c3 => R'_now c3 hS (by omega) (fun V4 W4 u4 w4 c4 => hq V4 W4 u4 (by omega) (by rw [setL_self hP]; exact c4)))))
  | succ m ih =>
    intro i x1 hi
    obtain ⟨v, hv⟩ := ih (i + 1) (31 * x1 + (rv (a_character (A0 S) (nI i))).toInt64) (by omega)
    refine ⟨v, fun V W u A Q hC hS hP hW hq => ?_⟩
    show wl_R_asks_360 Q (m + 1 + 1) x1 (nI (lineT S.game).length) (nI i) u
    rw [wl_R_asks_360]
    refine ⟨fun z => absurd ((nI_leI (by omega) (by omega)).mp z) (by omega), fun _ => R'_character hC hP (fun V1 W1 u1 w1 c1 x1' e1 x5' e5 => ?_)⟩
    rw [nI_1] at e5
    subst e1 e5
    exact hv V1 W1 u1 A Q c1 hS hP (by omega) (fun V' W' u' w' => hq V' W' u' (by omega))
set_option maxRecDepth 100000 in
theorem k324 {S : St} (h0 : StOk S) : ∀ (m i : Nat) (x1 : Int64), i + m = 6 → AGo S (40 * m + 6800) (fun _ => True) (fun Q u => wl_R_asks_324 Q (m + 1) x1 (nI i) u) := by
  have hl := lineT_le h0
  intro m
  induction m with
  | zero =>
    intro i x1 hi
    obtain ⟨v, hv⟩ := k360 h0 (lineT S.game).length 0 x1 (by omega)
    refine ⟨v, fun V W u A Q hC hS _ hW hq => ?_⟩
    show wl_R_asks_324 Q (0 + 1) x1 (nI i) u
    rw [wl_R_asks_324]
    refine ⟨fun _ => R'_line hC hS (fun u1 c1 => ⟨(lineT S.game).length + 1, by omega, ?_⟩), fun z => absurd (nI_le (a := 6) (by omega) (by omega)) z⟩
    exact hv V W u1 (A.setL (lineT S.game)) Q c1 hS rfl (by omega) (fun V' W' u' w' c' => hq V' W' u' (by omega) c')
  | succ m ih =>
    intro i x1 hi
    obtain ⟨v, hv⟩ := ih (i + 1) (31 * x1 + (rv (a_wonIn (A0 S) (nI i))).toInt64) (by omega)
    refine ⟨v, fun V W u A Q hC hS hP hW hq => ?_⟩
    show wl_R_asks_324 Q (m + 1 + 1) x1 (nI i) u
    rw [wl_R_asks_324]
    refine ⟨fun z => absurd ((nI_leI (a := 6) (by omega) (by omega)).mp z) (by omega), fun _ => R'_wonIn hC hS (by omega) (fun V1 W1 u1 w1 c1 x1' e1 x5' e5 => ?_)⟩
    rw [nI_1] at e5
    subst e1 e5
    exact hv V1 W1 u1 A Q c1 hS hP (by omega) (fun V' W' u' w' => hq V' W' u' (by omega))
set_option maxRecDepth 100000 in
theorem k220 {S : St} {n K : Nat} {x3 x4 : Int32} (hnext : ∀ x1 : Int64, AGo S K (fun _ => True) (fun Q u => wl_R_asks_194 Q n x1 x3 (x4 + 57) u)) : ∀ (m i : Nat) (x1 : Int64), i + m = 7 → AGo S (K + 40 * m + 250) (fun _ => True) (fun Q u => wl_R_asks_220 (fun x1' x3' x4' u' => wl_R_asks_194 Q n x1' x3' x4' u') Q (m + 1) x1 x3 x4 (nI i) u) := by
  intro m
  induction m with
  | zero =>
    intro i x1 hi
    obtain ⟨v, hv⟩ := hnext (31 * (31 * (31 * (31 * (31 * x1 + (rv (a_outcomeAgain (A0 S) x4)).toInt64) + (rv (a_best (A0 S) x4)).toInt64) + (rv (a_ends (A0 S) x4)).toInt64) + (rv (a_bestBurrow (A0 S) x4)).toInt64) + (rv (a_moveOf (A0 S) x4 0 true)).toInt64)
    refine ⟨v, fun V W u A Q hC hS hP hW hq => ?_⟩
    show wl_R_asks_220 (fun x1' x3' x4' u' => wl_R_asks_194 Q n x1' x3' x4' u') Q (0 + 1) x1 x3 x4 (nI i) u
    rw [wl_R_asks_220]
    refine ⟨fun _ => ?_, fun z => absurd (nI_le (a := 7) (by omega) (by omega)) z⟩
    refine R'_outcomeAgain hC hS (by omega) (fun V1 W1 u1 w1 c1 => R'_best c1 hS (by omega) (fun V2 W2 u2 w2 c2 => R'_ending c2 hS (by omega) (fun V3 W3 u3 w3 c3 => R'_bestBurrow c3 hS (by omega) (fun V4 W4 u4 w4 c4 y ey => R'_moveOf (b := true) c4 hS (by omega) (fun V5 W5 u5 w5 c5 z ez => ?_)))))
    subst ey ez
    unfold wb_R_asks_315
    intro x4' e4
    subst e4
    exact hv V5 W5 u5 A Q c5 hS hP (by omega) (fun V' W' u' w' => hq V' W' u' (by omega))
  | succ m ih =>
    intro i x1 hi
    obtain ⟨v, hv⟩ := ih (i + 1) (31 * x1 + (rv (a_positionOf (A0 S) x4 (nI i))).toInt64) (by omega)
    refine ⟨v, fun V W u A Q hC hS hP hW hq => ?_⟩
    show wl_R_asks_220 (fun x1' x3' x4' u' => wl_R_asks_194 Q n x1' x3' x4' u') Q (m + 1 + 1) x1 x3 x4 (nI i) u
    rw [wl_R_asks_220]
    refine ⟨fun z => absurd ((nI_leI (a := 7) (by omega) (by omega)).mp z) (by omega), fun _ => R'_positionOf hC hS (by omega) (fun V1 W1 u1 w1 c1 x1' e1 x5' e5 => ?_)⟩
    rw [nI_1] at e5
    subst e1 e5
    exact hv V1 W1 u1 A Q c1 hS hP (by omega) (fun V' W' u' w' => hq V' W' u' (by omega))
set_option maxRecDepth 100000 in
theorem k194 {S : St} (h0 : StOk S) : ∀ (m p : Nat) (x1 : Int64), p < 2 ^ 20 → 162 * S.n ≤ p + 57 * m → AGo S (600 * m + 7100) (fun _ => True) (fun Q u => wl_R_asks_194 Q (m + 1) x1 (nI S.n) (nI p) u) := by
  have hn := h0.1
  have hmul : (162 : Int32) * nI S.n = nI (162 * S.n) := by rw [show (162 : Int32) = nI 162 from rfl, pk_mul]
  have fin : ∀ (m p : Nat) (x1 : Int64), p < 2 ^ 20 → 162 * S.n ≤ p → AGo S (600 * m + 7100) (fun _ => True) (fun Q u => wl_R_asks_194 Q (m + 1) x1 (nI S.n) (nI p) u) := by
    intro m p x1 hp hle
    obtain ⟨v, hv⟩ := k324 h0 6 0 x1 rfl
    refine ⟨v, fun V W u A Q hC hS hP hW hq => ?_⟩
    show wl_R_asks_194 Q (m + 1) x1 (nI S.n) (nI p) u
    rw [wl_R_asks_194, hmul]
    exact ⟨fun _ => ⟨7, by omega, hv V W u A Q hC hS hP (by omega) (fun V' W' u' w' => hq V' W' u' (by omega))⟩, fun z => absurd (nI_le hle (by omega)) z⟩
  intro m
  induction m with
  | zero => exact fun p x1 hp hle => fin 0 p x1 hp (by omega)
  | succ m ih =>
    intro p x1 hp hle
    by_cases hlt : 162 * S.n ≤ p
    · exact fin (m + 1) p x1 hp hlt
    have hnext : ∀ y : Int64, AGo S (600 * m + 7100) (fun _ => True) (fun Q u => wl_R_asks_194 Q (m + 1) y (nI S.n) (nI p + 57) u) := fun y => by
      rw [show nI p + 57 = nI (p + 57) from nI_add p 57]
      exact ih (p + 57) y (by omega) (by omega)
    by_cases hr : 0 ≤ rv (a_positionOf (A0 S) (nI p) 0)
    · obtain ⟨v, hv⟩ := k220 hnext 3 4 x1 rfl
      refine ⟨v, fun V W u A Q hC hS hP hW hq => ?_⟩
      show wl_R_asks_194 Q (m + 1 + 1) x1 (nI S.n) (nI p) u
      rw [wl_R_asks_194, hmul]
      refine ⟨fun z => absurd ((nI_leI (by omega) (by omega)).mp z) hlt, fun _ => R'_positionOf hC hS (by omega) (fun V1 W1 u1 w1 c1 => ⟨fun _ => ⟨4, by omega, ?_⟩, fun z => absurd hr z⟩)⟩
      exact hv V1 W1 u1 A Q c1 hS hP (by omega) (fun V' W' u' w' => hq V' W' u' (by omega))
    · obtain ⟨v, hv⟩ := hnext x1
      refine ⟨v, fun V W u A Q hC hS hP hW hq => ?_⟩
      show wl_R_asks_194 Q (m + 1 + 1) x1 (nI S.n) (nI p) u
      rw [wl_R_asks_194, hmul]
      refine ⟨fun z => absurd ((nI_leI (by omega) (by omega)).mp z) hlt, fun _ => R'_positionOf hC hS (by omega) (fun V1 W1 u1 w1 c1 => ⟨fun z => absurd z hr, fun _ => ?_⟩)⟩
      unfold wb_R_asks_315
      intro x4' e4
      subst e4
      exact hv V1 W1 u1 A Q c1 hS hP (by omega) (fun V' W' u' w' => hq V' W' u' (by omega))
set_option maxRecDepth 100000 in
theorem k150 {S : St} (h0 : StOk S) : ∀ (m i : Nat) (x1 : Int64), i + m = 3 → AGo S (100 * m + 21000) (fun _ => True) (fun Q u => wl_R_asks_150 Q (m + 1) x1 (nI S.n) (nI i) u) := by
  have hn := h0.1
  intro m
  induction m with
  | zero =>
    intro i x1 hi
    obtain ⟨v, hv⟩ := k194 h0 23 19 x1 (by omega) (by omega)
    refine ⟨v, fun V W u A Q hC hS hP hW hq => ?_⟩
    show wl_R_asks_150 Q (0 + 1) x1 (nI S.n) (nI i) u
    rw [wl_R_asks_150]
    exact ⟨fun _ => ⟨24, by omega, hv V W u A Q hC hS hP (by omega) (fun V' W' u' w' => hq V' W' u' (by omega))⟩, fun z => absurd (nI_le (a := 3) (by omega) (by omega)) z⟩
  | succ m ih =>
    intro i x1 hi
    obtain ⟨v, hv⟩ := ih (i + 1) (31 * (31 * x1 + (rv (a_count (A0 S) (nI i) false)).toInt64) + (rv (a_count (A0 S) (nI i) true)).toInt64) (by omega)
    refine ⟨v, fun V W u A Q hC hS hP hW hq => ?_⟩
    show wl_R_asks_150 Q (m + 1 + 1) x1 (nI S.n) (nI i) u
    rw [wl_R_asks_150]
    refine ⟨fun z => absurd ((nI_leI (a := 3) (by omega) (by omega)).mp z) (by omega), fun _ => R'_count (b := false) hC hS (by omega) (fun V1 W1 u1 w1 c1 => R'_count (b := true) c1 hS (by omega) (fun V2 W2 u2 w2 c2 x1' e1 x5' e5 => ?_))⟩
    rw [nI_1] at e5
    subst e1 e5
    exact hv V2 W2 u2 A Q c2 hS hP (by omega) (fun V' W' u' w' => hq V' W' u' (by omega))
set_option maxRecDepth 100000 in
theorem k103 {S : St} (h0 : StOk S) : ∀ (m i : Nat) (x1 : Int64), i + m = S.ps.length → AGo S (150 * m + 21400) (fun _ => True) (fun Q u => wl_R_asks_103 Q (m + 1) x1 (nI S.n) (nI i) u) := by
  have hp := h0.2.2.2.1.1
  intro m
  induction m with
  | zero =>
    intro i x1 hi
    obtain ⟨v, hv⟩ := k150 h0 3 0 x1 rfl
    refine ⟨v, fun V W u A Q hC hS hP hW hq => ?_⟩
    show wl_R_asks_103 Q (0 + 1) x1 (nI S.n) (nI i) u
    rw [wl_R_asks_103]
    refine R'_account ⟨by decide, by decide⟩ hC hS (by omega) (fun V1 W1 u1 w1 c1 => ?_)
    rw [acc_1]
    exact ⟨fun _ => ⟨4, by omega, hv V1 W1 u1 A Q c1 hS hP (by omega) (fun V' W' u' w' => hq V' W' u' (by omega))⟩, fun z => absurd (nI_le (by omega) (by omega)) z⟩
  | succ m ih =>
    intro i x1 hi
    obtain ⟨v, hv⟩ := ih (i + 1) (31 * (31 * x1 + (rv (a_pathOf (A0 S) (nI i) false)).toInt64) + (rv (a_pathOf (A0 S) (nI i) true)).toInt64) (by omega)
    refine ⟨v, fun V W u A Q hC hS hP hW hq => ?_⟩
    show wl_R_asks_103 Q (m + 1 + 1) x1 (nI S.n) (nI i) u
    rw [wl_R_asks_103]
    refine R'_account ⟨by decide, by decide⟩ hC hS (by omega) (fun V0 W0 u0 w0 c0 => ?_)
    rw [acc_1]
    refine ⟨fun z => absurd ((nI_leI (by omega) (by omega)).mp z) (by omega), fun _ => R'_pathOf (b := false) c0 hS (by omega) (fun V1 W1 u1 w1 c1 => R'_pathOf (b := true) c1 hS (by omega) (fun V2 W2 u2 w2 c2 x1' e1 x5' e5 => ?_))⟩
    rw [nI_1] at e5
    subst e1 e5
    exact hv V2 W2 u2 A Q c2 hS hP (by omega) (fun V' W' u' w' => hq V' W' u' (by omega))
set_option maxRecDepth 100000 in
theorem k66 {S : St} {n K : Nat} {x3 x4 : Int32} (hnext : ∀ x1 : Int64, AGo S K (fun _ => True) (fun Q u => wl_R_asks_57 Q n x1 x3 (x4 + 1) u)) : ∀ (m i : Nat) (x1 : Int64), i + m = 4 → AGo S (K + 40 * m + 10) (fun _ => True) (fun Q u => wl_R_asks_66 (fun x1' x3' x4' u' => wl_R_asks_57 Q n x1' x3' x4' u') Q (m + 1) x1 x3 x4 (nI i) u) := by
  intro m
  induction m with
  | zero =>
    intro i x1 hi
    obtain ⟨v, hv⟩ := hnext x1
    refine ⟨v, fun V W u A Q hC hS hP hW hq => ?_⟩
    show wl_R_asks_66 (fun x1' x3' x4' u' => wl_R_asks_57 Q n x1' x3' x4' u') Q (0 + 1) x1 x3 x4 (nI i) u
    rw [wl_R_asks_66]
    refine ⟨fun _ => ?_, fun z => absurd (nI_le (a := 4) (by omega) (by omega)) z⟩
    intro x4' e4
    subst e4
    exact hv V W u A Q hC hS hP (by omega) (fun V' W' u' w' => hq V' W' u' (by omega))
  | succ m ih =>
    intro i x1 hi
    obtain ⟨v, hv⟩ := ih (i + 1) (31 * x1 + (rv (a_burrowOf (A0 S) x4 (nI i))).toInt64) (by omega)
    refine ⟨v, fun V W u A Q hC hS hP hW hq => ?_⟩
    show wl_R_asks_66 (fun x1' x3' x4' u' => wl_R_asks_57 Q n x1' x3' x4' u') Q (m + 1 + 1) x1 x3 x4 (nI i) u
    rw [wl_R_asks_66]
    refine ⟨fun z => absurd ((nI_leI (a := 4) (by omega) (by omega)).mp z) (by omega), fun _ => R'_burrowOf hC hS (by omega) (fun V1 W1 u1 w1 c1 x1' e1 x5' e5 => ?_)⟩
    rw [nI_1] at e5
    subst e1 e5
    exact hv V1 W1 u1 A Q c1 hS hP (by omega) (fun V' W' u' w' => hq V' W' u' (by omega))
set_option maxRecDepth 100000 in
theorem k57 {S : St} (h0 : StOk S) : ∀ (m i : Nat) (x1 : Int64), i + m = S.n → AGo S (200 * m + 24000) (fun _ => True) (fun Q u => wl_R_asks_57 Q (m + 1) x1 (nI S.n) (nI i) u) := by
  have hn := h0.1
  have hp := h0.2.2.2.1.1
  intro m
  induction m with
  | zero =>
    intro i x1 hi
    obtain ⟨v, hv⟩ := k103 h0 S.ps.length 0 x1 (by omega)
    refine ⟨v, fun V W u A Q hC hS hP hW hq => ?_⟩
    show wl_R_asks_57 Q (0 + 1) x1 (nI S.n) (nI i) u
    rw [wl_R_asks_57]
    exact ⟨fun _ => ⟨S.ps.length + 1, by omega, hv V W u A Q hC hS hP (by omega) (fun V' W' u' w' => hq V' W' u' (by omega))⟩, fun z => absurd (nI_le (by omega) (by omega)) z⟩
  | succ m ih =>
    intro i x1 hi
    have hnext : ∀ y : Int64, AGo S (200 * m + 24000) (fun _ => True) (fun Q u => wl_R_asks_57 Q (m + 1) y (nI S.n) (nI i + 1) u) := fun y => by
      rw [nI_1]
      exact ih (i + 1) y (by omega)
    obtain ⟨v, hv⟩ := k66 hnext 4 0 x1 rfl
    refine ⟨v, fun V W u A Q hC hS hP hW hq => ?_⟩
    show wl_R_asks_57 Q (m + 1 + 1) x1 (nI S.n) (nI i) u
    rw [wl_R_asks_57]
    exact ⟨fun z => absurd ((nI_leI (by omega) (by omega)).mp z) (by omega), fun _ => ⟨5, by omega, hv V W u A Q hC hS hP (by omega) (fun V' W' u' w' => hq V' W' u' (by omega))⟩⟩
set_option maxRecDepth 100000 in
theorem k23 {S : St} (h0 : StOk S) : ∀ (m i : Nat) (x1 : Int64), i + m = 9 → AGo S (40 * m + 25700) (fun _ => True) (fun Q u => wl_R_asks_23 Q (m + 1) x1 (nI i) u) := by
  have hn := h0.1
  intro m
  induction m with
  | zero =>
    intro i x1 hi
    obtain ⟨v, hv⟩ := k57 h0 S.n 0 x1 (by omega)
    refine ⟨v, fun V W u A Q hC hS hP hW hq => ?_⟩
    show wl_R_asks_23 Q (0 + 1) x1 (nI i) u
    rw [wl_R_asks_23]
    refine ⟨fun _ => R'_account ⟨by decide, by decide⟩ hC hS (by omega) (fun V1 W1 u1 w1 c1 => ?_), fun z => absurd (nI_le (a := 9) (by omega) (by omega)) z⟩
    rw [acc_0]
    exact ⟨S.n + 1, by omega, hv V1 W1 u1 A Q c1 hS hP (by omega) (fun V' W' u' w' => hq V' W' u' (by omega))⟩
  | succ m ih =>
    intro i x1 hi
    obtain ⟨v, hv⟩ := ih (i + 1) (31 * x1 + (rv (a_account (A0 S) (nI i))).toInt64) (by omega)
    refine ⟨v, fun V W u A Q hC hS hP hW hq => ?_⟩
    show wl_R_asks_23 Q (m + 1 + 1) x1 (nI i) u
    rw [wl_R_asks_23]
    refine ⟨fun z => absurd ((nI_leI (a := 9) (by omega) (by omega)).mp z) (by omega), fun _ => R'_account ⟨fun z => absurd ((nI_eq (b := 9) (by omega) (by decide)).mp z) (by omega), fun z => absurd ((nI_eq (b := 10) (by omega) (by decide)).mp z) (by omega)⟩ hC hS (by omega) (fun V1 W1 u1 w1 c1 x1' e1 x5' e5 => ?_)⟩
    rw [nI_1] at e5
    subst e1 e5
    exact hv V1 W1 u1 A Q c1 hS hP (by omega) (fun V' W' u' w' => hq V' W' u' (by omega))
def zq64 (x : UInt64) : Int64 := if (Op.cmpValue (FP.dcmp x x) .l) = 0 then x.toInt64 else 9221120237041090560
def zq32 (x : UInt32) : Int32 := if (Op.cmpValue (FP.fcmp x x) .l) = 0 then x.toInt32 else 2143289344
theorem R_d2l {x : UInt64} {Q : Int64 → Prop} (h : Q (zq64 x)) : w_Jxe99ae_doubleToLongBits_ccdee x Q := by
  unfold zq64 at h
  unfold w_Jxe99ae_doubleToLongBits_ccdee w_Jxe99ae_isNaN_b9ae7
  refine ⟨fun z => ⟨fun z2 => absurd rfl z2, fun _ => ?_⟩, fun z => ⟨fun _ => ?_, fun z2 => absurd z2 (by decide)⟩⟩
  · rw [if_pos z] at h; exact h
  · rw [if_neg z] at h; exact h
theorem R_f2i {x : UInt32} {Q : Int32 → Prop} (h : Q (zq32 x)) : w_Jxf58ca_floatToIntBits_5c35a x Q := by
  unfold zq32 at h
  unfold w_Jxf58ca_floatToIntBits_5c35a w_Jxf58ca_isNaN_12338
  refine ⟨fun z => ⟨fun z2 => absurd rfl z2, fun _ => ?_⟩, fun z => ⟨fun _ => ?_, fun z2 => absurd z2 (by decide)⟩⟩
  · rw [if_pos z] at h; exact h
  · rw [if_neg z] at h; exact h
set_option maxRecDepth 100000 in
theorem asks_ex {S : St} (h0 : StOk S) : AGo S 26200 (fun _ => True) (fun Q u => w_R_asks u Q) := by
  obtain ⟨v, hv⟩ := k23 h0 9 0 (31 * zq64 (qMean S) + (zq32 (qDrawn S)).toInt64) rfl
  refine ⟨v, fun V W u A Q hC hS hP hW hq => ?_⟩
  show w_R_asks u Q
  unfold w_R_asks
  refine R'_meanMoves hC hS (by omega) (fun V1 W1 u1 w1 c1 => R_d2l (R'_drawn c1 hS (by omega) (fun V2 W2 u2 w2 c2 => R_f2i (fun x ex => ⟨10, by omega, ?_⟩))))
  subst ex
  exact hv V2 W2 u2 A Q c2 hS hP (by omega) (fun V' W' u' w' => hq V' W' u' (by omega))

noncomputable def asksV (S : St) : Int64 := @dite Int64 (StOk S) (Classical.propDecidable _) (fun h => Classical.choose (asks_ex h)) (fun _ => 0)
set_option maxRecDepth 100000 in
/-- the law's question: the number of the state -/
theorem R_asks {V : Nat → Cfg} {W : Nat} {u : MU} {A : Ab} {Q : Int64 → MU → Prop} (hC : CI V W u A none 0) (hW : W + 26200 < 2 ^ 20) (hq : ∀ V' W' u', W' ≤ W + 26200 → CI V' W' u' (A.setL (lineT A.S.game)) none 0 → Q (asksV A.S) u') : w_R_asks u Q := by
  have h := Classical.choose_spec (asks_ex hC.S) V W u A Q hC rfl trivial hW
  refine h (fun V' W' u' w c => ?_)
  have h2 := hq V' W' u' w c
  unfold asksV at h2
  rw [dif_pos hC.S] at h2
  exact h2
