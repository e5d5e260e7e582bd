/-! MAKES: burrows, paths, a trap, geese -/
theorem tread_shape {S S' : St} {x y : Int32} {a : Nat} (e : opTread S x y = .inr (a, S')) : S' = mkS S.n S.traps S.geese (S.ps ++ [(cl x, cl y)]) none S.begun := by
  unfold opTread at e
  split at e
  · cases e
  · split at e
    · cases e
    · split at e
      · cases e
      · split at e
        · cases e
        · split at e
          · cases e; rfl
          · cases e
theorem tread_w {S : St} {x y w d : Int32} (hx : hasI S.cfg x = true) (hy : hasI S.cfg y = true) (hl : S.ps.length < 16) (e : opTread S x y = .inl (w, d)) : w = 4 ∨ w = 5 := by
  unfold opTread at e
  rw [if_neg (by rw [hx]; decide), if_neg (by rw [hy]; decide)] at e
  split at e
  · cases e; exact Or.inl rfl
  · split at e
    · cases e; exact Or.inr rfl
    · first | cases e | (rw [if_pos hl] at e; cases e)
/-- what stands after the burrows: so many paths, the one between 0 and 1 too -/
def J2 (N m : Nat) (S : St) : Prop := S.n = N ∧ S.game = none ∧ S.traps = 0 ∧ S.geese = 1 ∧ S.ps.length ≤ m ∧ adjB S.ps 1 0 = true
theorem pc1 : ∀ a, a < 8 → pcN (0 ^^^ 2 ^ a) = 1 := by decide +kernel
set_option maxRecDepth 100000 in
theorem mk_end {xs : Nat → Int32} {L : Nat} (hL : L ≤ 260) {N m W : Nat} {S : St} {hi : List St} {sv : Option St} {u : MU} {Q : Int32 → MU → Prop} (hJ : S.n = N ∧ S.game = none ∧ S.geese = 1 ∧ adjB S.ps 1 0 = true) (h : IN S hi sv (fun _ => True) W u) (k : ∀ S' hi' u', S'.n = N → S'.game = none → adjB S'.ps 1 0 = true → IN S' hi' sv (fun _ => True) (W + 40) u' → Q 1 u') : wb_R_makes_170 xs L Q u := by
  obtain ⟨j1, j2, j3, j4⟩ := hJ
  unfold wb_R_makes_170
  refine R_at (k := 20) hL (by decide) (fun v => ⟨fun _ => ?_, fun _ => ?_⟩)
  · unfold wb_R_makes_190
    exact k S hi u j1 j2 j4 (h.le (by omega))
  · have e : opFlock S 2 = .inr (1, mkS S.n S.traps 2 S.ps none S.begun) := by
      unfold opFlock
      rw [if_neg (by decide), if_neg (by decide), j3, if_neg (by decide), show cl 2 = 2 by decide]
    refine D_flock h e (by decide) (fun u1 h1 => ⟨fun z => absurd rfl z, fun _ => ?_⟩)
    unfold wb_R_makes_190
    exact k (mkS S.n S.traps 2 S.ps none S.begun) _ u1 j1 rfl j4 h1
set_option maxRecDepth 100000 in
theorem mk_72 {xs : Nat → Int32} {L : Nat} (hL : L ≤ 260) {N W0 : Nat} (hN : 3 ≤ N ∧ N ≤ 6) {sv : Option St} {Q : Int32 → MU → Prop} (hW : W0 + 2000 < 2 ^ 20) (k : ∀ S' hi' u', S'.n = N → S'.game = none → adjB S'.ps 1 0 = true → IN S' hi' sv (fun _ => True) (W0 + 1000) u' → Q 1 u') : ∀ (m i W : Nat) (S : St) (hi : List St) (u : MU), i + m = 5 → J2 N (5 + i) S → W ≤ W0 + 120 * i → IN S hi sv (fun _ => True) W u → wl_R_makes_72 xs L Q (m + 1) (nI N) (nI i) u := by
  intro m
  induction m with
  | zero =>
    intro i W S hi u him hJ hw h
    obtain ⟨j1, j2, j3, j4, j5, j6⟩ := hJ
    rw [wl_R_makes_72]
    refine ⟨fun _ => ?_, fun z => absurd (nI_le (a := 5) (by omega) (by omega)) z⟩
    refine R_at (k := 18) hL (by decide) (fun v => ⟨fun _ => ?_, fun _ => ?_⟩)
    · exact mk_end (m := 0) hL ⟨j1, j2, j4, j6⟩ h (fun S' hi' u' a1 a2 a3 a4 => k S' hi' u' a1 a2 a3 (a4.le (by omega)))
    · refine R_at (k := 19) hL (by decide) (fun v2 => R_some (by omega) (by omega) (fun a ha => ?_))
      have hok := h.ok
      have hx : hasI S.cfg (nI a) = true := by rw [hasI_nI hok.cfg (by omega)]; exact decide_eq_true (show a < S.n by omega)
      have e : opTrap S (nI a) true = .inr (1, mkS S.n (0 ^^^ 2 ^ a) S.geese S.ps none S.begun) := by
        unfold opTrap
        rw [if_neg (by rw [hx]; decide), j3, show cl (nI a) = a from nI_clamp (by omega), if_neg (by simp), pc1 a (by omega)]
      refine D_trap (b := true) h e (by decide) (fun u1 h1 => ⟨fun _ => ?_, fun z => absurd rfl z⟩)
      exact mk_end (m := 0) (S := mkS S.n (0 ^^^ 2 ^ a) S.geese S.ps none S.begun) hL ⟨j1, rfl, j4, j6⟩ h1 (fun S' hi' u' a1 a2 a3 a4 => k S' hi' u' a1 a2 a3 (a4.le (by omega)))
  | succ m ih =>
    intro i W S hi u him hJ hw h
    obtain ⟨j1, j2, j3, j4, j5, j6⟩ := hJ
    have hok := h.ok
    rw [wl_R_makes_72]
    refine ⟨fun z => absurd ((nI_leI (a := 5) (by omega) (by omega)).mp z) (by omega), fun _ => ?_⟩
    rw [show (8 : Int32) + nI i = nI (8 + i) from nI_add 8 i, show (13 : Int32) + nI i = nI (13 + i) from nI_add 13 i]
    refine R_at hL (by omega) (fun v1 => R_some (by omega) (by omega) (fun a ha => R_at hL (by omega) (fun v2 => R_some (by omega) (by omega) (fun b hb => ?_))))
    have hx : hasI S.cfg (nI a) = true := by rw [hasI_nI hok.cfg (by omega)]; exact decide_eq_true (show a < S.n by omega)
    have hy : hasI S.cfg (nI b) = true := by rw [hasI_nI hok.cfg (by omega)]; exact decide_eq_true (show b < S.n by omega)
    have next : ∀ (S' : St) (hi' : List St) (u' : MU), J2 N (5 + (i + 1)) S' → IN S' hi' sv (fun _ => True) (W + 120) u' → wb_R_makes_132 xs L (fun x2' x3' u' => wl_R_makes_72 xs L Q (m + 1) x2' x3' u') Q (nI N) (nI i) u' := by
      intro S' hi' u' hJ' h'
      unfold wb_R_makes_132
      intro x3 e3
      rw [nI_1] at e3
      subst e3
      exact ih (i + 1) (W + 120) S' hi' u' (by omega) hJ' (by omega) h'
    refine C_gen (op := fun S => opTread S (nI a) (nI b)) (wop := w_R_tread (nI a) (nI b) u) h hR_tread (fun a' S' e => tread_lt hok e) (fun w d u1 e h1 => ⟨fun z => absurd z (by decide), fun _ => ?_⟩) (fun a' S' u1 e ha' h1 => ⟨fun _ => ?_, fun z => absurd (nI_pos' ha') z⟩)
    · have hJ' : J2 N (5 + (i + 1)) S := ⟨j1, j2, j3, j4, by omega, j6⟩
      rcases tread_w hx hy (by omega) e with e4 | e4
      · subst e4
        exact N_reason h1 (Or.inl rfl) (fun u2 h2 => ⟨fun _ => next S hi u2 hJ' (h2.any.le (by omega)), fun z => absurd rfl z⟩)
      · subst e4
        exact N_reason h1 (Or.inl rfl) (fun u2 h2 => ⟨fun z => absurd z (show ¬ (5 : Int32) = 4 by decide), fun _ => N_reason h2 (Or.inl rfl) (fun u3 h3 => ⟨fun _ => next S hi u3 hJ' (h3.any.le (by omega)), fun z => absurd rfl z⟩)⟩)
    · have hsh := tread_shape e
      subst hsh
      refine next (mkS S.n S.traps S.geese (S.ps ++ [(cl (nI a), cl (nI b))]) none S.begun) _ u1 ⟨j1, rfl, j3, j4, ?_, ?_⟩ (h1.le (by omega))
      · show (S.ps ++ [(cl (nI a), cl (nI b))]).length ≤ _
        rw [List.length_append, List.length_singleton]; omega
      · show adjB (S.ps ++ [(cl (nI a), cl (nI b))]) 1 0 = true
        rw [adjB_app, j6]; rfl
/-- after so many paths of the tree -/
def J1 (N k : Nat) (S : St) : Prop := S.n = N ∧ S.game = none ∧ S.traps = 0 ∧ S.geese = 1 ∧ S.ps.length + 1 = k ∧ (∀ p, p ∈ S.ps → p.1 < k ∧ p.2 < k) ∧ (2 ≤ k → adjB S.ps 1 0 = true)
set_option maxRecDepth 100000 in
theorem mk_37 {xs : Nat → Int32} {L : Nat} (hL : L ≤ 260) {N W0 : Nat} (hN : 3 ≤ N ∧ N ≤ 6) {sv : Option St} {Q : Int32 → MU → Prop} (hW : W0 + 4000 < 2 ^ 20) (k : ∀ S' hi' u', S'.n = N → S'.game = none → adjB S'.ps 1 0 = true → IN S' hi' sv (fun _ => True) (W0 + 1300) u' → Q 1 u') : ∀ (m i W : Nat) (S : St) (hi : List St) (u : MU), i + m = N → 1 ≤ i → J1 N i S → W ≤ W0 + 40 * i → IN S hi sv (fun _ => True) W u → wl_R_makes_37 xs L Q (m + 1) (nI N) (nI i) u := by
  intro m
  induction m with
  | zero =>
    intro i W S hi u him h1i hJ hw h
    obtain ⟨j1, j2, j3, j4, j5, j6, j7⟩ := hJ
    rw [wl_R_makes_37]
    refine ⟨fun _ => ⟨6, by omega, ?_⟩, fun z => absurd (nI_le (by omega) (by omega)) z⟩
    exact mk_72 (W0 := W) hL hN (by omega) (fun S' hi' u' a1 a2 a3 a4 => k S' hi' u' a1 a2 a3 (a4.le (by omega))) 5 0 W S hi u rfl ⟨j1, j2, j3, j4, by omega, j7 (by omega)⟩ (by omega) h
  | succ m ih =>
    intro i W S hi u him h1i hJ hw h
    obtain ⟨j1, j2, j3, j4, j5, j6, j7⟩ := hJ
    have hok := h.ok
    rw [wl_R_makes_37]
    refine ⟨fun z => absurd ((nI_leI (by omega) (by omega)).mp z) (by omega), fun _ => ?_⟩
    refine R_at hL (by omega) (fun v1 => R_some (by omega) (by omega) (fun q hq => ?_))
    have hadj : adjB S.ps i q = false := by
      cases e : adjB S.ps i q with
      | false => rfl
      | true =>
        unfold adjB at e
        obtain ⟨p, hp, h1⟩ := List.any_eq_true.mp e
        have := j6 p hp
        rcases smP_spec.mp h1 with ⟨e1, e2⟩ | ⟨e1, e2⟩ <;> omega
    have hx : hasI S.cfg (nI i) = true := by rw [hasI_nI hok.cfg (by omega)]; exact decide_eq_true (show i < S.n by omega)
    have hy : hasI S.cfg (nI q) = true := by rw [hasI_nI hok.cfg (by omega)]; exact decide_eq_true (show q < S.n by omega)
    have e : opTread S (nI i) (nI q) = .inr (i - 1, mkS S.n S.traps S.geese (S.ps ++ [(i, q)]) none S.begun) := by
      unfold opTread
      rw [if_neg (by rw [hx]; decide), if_neg (by rw [hy]; decide), if_neg (fun z => absurd ((nI_eq (by omega) (by omega)).mp z) (by omega)), show cl (nI i) = i from nI_clamp (by omega), show cl (nI q) = q from nI_clamp (by omega), (pix_none S.ps 0).mpr hadj]
      show (if S.ps.length < 16 then _ else _) = _
      rw [if_pos (by omega), show S.ps.length = i - 1 by omega]
    refine D_tread h e (by omega) (fun u1 h1 => ⟨fun _ x3 e3 => ?_, fun z => absurd ?_ z⟩)
    · rw [nI_1] at e3
      subst e3
      refine ih (i + 1) (W + 40) (mkS S.n S.traps S.geese (S.ps ++ [(i, q)]) none S.begun) _ u1 (by omega) (by omega) ⟨j1, rfl, j3, j4, ?_, ?_, ?_⟩ (by omega) h1
      · show (S.ps ++ [(i, q)]).length + 1 = i + 1
        rw [List.length_append, List.length_singleton]; omega
      · intro p hp
        rcases List.mem_append.mp (show p ∈ S.ps ++ [(i, q)] from hp) with h9 | h9
        · have := j6 p h9; omega
        · rw [List.mem_singleton.mp h9]
          show i < i + 1 ∧ q < i + 1
          omega
      · intro _
        show adjB (S.ps ++ [(i, q)]) 1 0 = true
        rw [adjB_app]
        by_cases h2 : 2 ≤ i
        · rw [j7 h2]; rfl
        · have hi1 : i = 1 := by omega
          have hq0 : q = 0 := by omega
          subst hi1 hq0
          rw [show smP 1 0 (1, 0) = true by decide, Bool.or_true]
    · obtain ⟨i', hi'⟩ : ∃ i', i = i' + 1 := ⟨i - 1, by omega⟩
      subst hi'
      rw [nI_pred, Nat.add_sub_cancel]
def Sd (i : Nat) : St := mkS i 0 1 [] none 0
set_option maxRecDepth 100000 in
theorem mk_14 {xs : Nat → Int32} {L : Nat} (hL : L ≤ 260) {N W0 : Nat} (hN : 3 ≤ N ∧ N ≤ 6) {sv : Option St} {Q : Int32 → MU → Prop} (hW : W0 + 6000 < 2 ^ 20) (k : ∀ S' hi' u', S'.n = N → S'.game = none → adjB S'.ps 1 0 = true → IN S' hi' sv (fun _ => True) (W0 + 1800) u' → Q 1 u') : ∀ (m i W : Nat) (hi : List St) (u : MU), i + m = N → W ≤ W0 + 40 * i → IN (Sd i) hi sv (fun _ => True) W u → wl_R_makes_14 xs L Q (m + 1) (nI N) (nI i) u := by
  intro m
  induction m with
  | zero =>
    intro i W hi u him hw h
    rw [wl_R_makes_14]
    refine ⟨fun _ => ⟨N, by omega, ?_⟩, fun z => absurd (nI_le (by omega) (by omega)) z⟩
    obtain ⟨n1, hn1⟩ : ∃ n1, N = n1 + 1 := ⟨N - 1, by omega⟩
    have hh := mk_37 (xs := xs) (Q := Q) (W0 := W) hL hN (by omega) (fun S' hi' u' a1 a2 a3 a4 => k S' hi' u' a1 a2 a3 (a4.le (by omega))) n1 1 W (Sd i) hi u (by omega) (by omega) ⟨by show i = N; omega, rfl, rfl, rfl, rfl, fun p hp => absurd hp List.not_mem_nil, fun z => absurd z (by omega)⟩ (by omega) h
    rw [← hn1] at hh
    exact hh
  | succ m ih =>
    intro i W hi u him hw h
    rw [wl_R_makes_14]
    refine ⟨fun z => absurd ((nI_leI (by omega) (by omega)).mp z) (by omega), fun _ => ?_⟩
    have e : opDig (Sd i) = .inr (i, Sd (i + 1)) := by
      unfold opDig
      rw [if_pos (show (Sd i).n < 8 from (show i < 8 by omega))]
      rfl
    refine D_dig h e (by omega) (fun u1 h1 => ⟨fun _ x3 e3 => ?_, fun z => absurd rfl z⟩)
    rw [nI_1] at e3
    subst e3
    exact ih (i + 1) (W + 40) _ u1 (by omega) (by omega) h1
set_option maxRecDepth 100000 in
theorem makes_ok {xs : Nat → Int32} {L : Nat} (hL : L ≤ 260) {W : Nat} {hi : List St} {sv : Option St} {u : MU} {Q : Int32 → MU → Prop} (h : IN (Sd 0) hi sv (fun _ => True) W u) (hW : W + 6000 < 2 ^ 20) (k : ∀ S' hi' u', 3 ≤ S'.n → S'.game = none → adjB S'.ps 1 0 = true → IN S' hi' sv (fun _ => True) (W + 1800) u' → Q 1 u') : w_R_makes xs L u Q := by
  unfold w_R_makes
  refine R_at (k := 0) hL (by decide) (fun v => R_some (n := 4) (by decide) (by decide) (fun j hj x2 e2 => ?_))
  rw [show (3 : Int32) + nI j = nI (3 + j) from nI_add 3 j] at e2
  subst e2
  refine ⟨3 + j + 1, by omega, ?_⟩
  exact mk_14 (N := 3 + j) hL (by omega) hW (fun S' hi' u' a1 a2 a3 a4 => k S' hi' u' (by omega) a2 a3 a4) (3 + j) 0 W hi u (by omega) (by omega) h
