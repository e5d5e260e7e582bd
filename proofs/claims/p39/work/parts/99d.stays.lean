/-! WHAT STAYS: state, kept changes, snapshot; the text is empty -/
abbrev Why : Type := Option (Int32 × (Int32 × Int32))
def IN (S : St) (hi : List St) (sv : Option St) (y : Why → Prop) (W : Nat) (u : MU) : Prop := ∃ (V : Nat → Cfg) (W' : Nat) (A : Ab), W' ≤ W ∧ CI V W' u A none 0 ∧ A.S = S ∧ A.hist = hi ∧ A.sv = sv ∧ A.text = [] ∧ y A.why
section ZN
variable {S T : St} {hi D : List St} {sv : Option St} {y : Why → Prop} {W : Nat} {u : MU} {B F : MU → Prop}
theorem IN.ok (h : IN S hi sv y W u) : StOk S := by
  obtain ⟨V, W', A, w, c, rfl, _⟩ := h
  exact c.S
theorem IN.any (h : IN S hi sv y W u) : IN S hi sv (fun _ => True) W u := by
  obtain ⟨V, W', A, w, c, e1, e2, e3, e4, _⟩ := h
  exact ⟨V, W', A, w, c, e1, e2, e3, e4, trivial⟩
theorem IN.le {W2 : Nat} (h : IN S hi sv y W u) (hw : W ≤ W2) : IN S hi sv y W2 u := by
  obtain ⟨V, W', A, w, c, e⟩ := h
  exact ⟨V, W', A, Nat.le_trans w hw, c, e⟩
theorem IN.h8 (h : IN S hi sv y W u) : hi.length ≤ 8 := by
  obtain ⟨V, W', A, w, c, e1, rfl, _⟩ := h
  exact c.ok.2.2.1
theorem N_reason {x : Int32} {w d i : Int32} {Q : Int32 → MU → Prop} (h : IN S hi sv (fun z => z = some (w, (d, i))) W u) (hx : x = 0 ∨ x = 1 ∨ x = 2) (k : ∀ u', IN S hi sv (fun z => z = some (w, (d, i))) (W + 40) u' → Q (if x = 0 then w else if x = 1 then d else i) u') : w_R_reason x u Q := by
  obtain ⟨V, W1, A, w1, c, e1, e2, e3, e4, e5⟩ := h
  have ea : a_reason A x = (0, (if x = 0 then w else if x = 1 then d else i, A)) := by
    unfold a_reason
    rw [if_neg (by rcases hx with rfl | rfl | rfl <;> decide), if_neg (by rcases hx with rfl | rfl | rfl <;> decide), e5]
  refine R_reason c (fun V2 W2 u2 w2 c2 => ?_)
  rw [ea] at c2 ⊢
  exact k u2 ⟨V2, W2, A, by omega, c2, e1, e2, e3, e4, e5⟩
theorem N_reasonX {x : Int32} {Q : Int32 → MU → Prop} (h : IN S hi sv y W u) (hx : x < 0 ∨ 2 < x) (k : ∀ u', IN S hi sv y (W + 40) u' → Q (-1001) u') : w_R_reason x u Q := by
  obtain ⟨V, W1, A, w1, c, e1, e2, e3, e4, e5⟩ := h
  have ea : a_reason A x = (1, (0, A)) := by
    unfold a_reason
    by_cases z : x < 0
    · rw [if_pos z]
    · rw [if_neg z, if_pos (hx.resolve_left z)]
  refine R_reason c (fun V2 W2 u2 w2 c2 => ?_)
  rw [ea] at c2 ⊢
  exact k u2 ⟨V2, W2, A, by omega, c2, e1, e2, e3, e4, e5⟩
theorem N_characterX {x : Int32} {Q : Int32 → MU → Prop} (h : IN S hi sv y W u) (hx : x < 0 ∨ 160 ≤ cl x) (k : ∀ u', IN S hi sv y (W + 40) u' → Q (-1001) u') : w_R_character x u Q := by
  obtain ⟨V, W1, A, w1, c, e1, e2, e3, e4, e5⟩ := h
  have hl := c.ok.2.2.2.2.2.2.1
  have ea : a_character A x = (1, (0, A)) := by
    unfold a_character
    by_cases z : x < 0
    · rw [if_pos z]
    · rw [if_neg z, List.getElem?_eq_none (by have := hx.resolve_left z; omega)]
  refine R_character c (fun V2 W2 u2 w2 c2 => ?_)
  rw [ea] at c2 ⊢
  exact k u2 ⟨V2, W2, A, by omega, c2, e1, e2, e3, e4, e5⟩
theorem N_is {w d i : Int32} (h : IN S hi sv (fun z => z = some (w, (d, i))) W u) (k : ∀ u', IN S hi sv (fun z => z = some (w, (d, i))) (W + 120) u' → F u') : w_R_is w d i u (fun r u1 => (r = 0 → B u1) ∧ (¬ r = 0 → F u1)) := by
  unfold w_R_is
  refine N_reason h (Or.inl rfl) (fun u1 h1 => ⟨fun z => absurd rfl z, fun _ => N_reason h1 (Or.inr (Or.inl rfl)) (fun u2 h2 => ⟨fun z => absurd rfl z, fun _ => N_reason h2 (Or.inr (Or.inr rfl)) (fun u3 h3 => ⟨fun z => absurd rfl z, fun _ => ⟨fun z => absurd z (by decide), fun _ => k u3 (h3.le (by omega))⟩⟩)⟩)⟩)
theorem N_e {x : Int32} (he : u 0 13 = x) (k : F u) : w_R_e x u (fun r u1 => (r = 0 → B u1) ∧ (¬ r = 0 → F u1)) := by
  unfold w_R_e w_X9_faultPosition
  exact ⟨fun z => absurd he z, fun _ => ⟨fun z => absurd z (by decide), fun _ => k⟩⟩
set_option maxRecDepth 100000 in
theorem N_asks {Q : Int64 → MU → Prop} (h : IN S hi sv y W u) (hW : W + 26200 < 2 ^ 20) (k : ∀ u', IN S hi sv y (W + 26200) u' → Q (asksV S) u') : w_R_asks u Q := by
  obtain ⟨V, W1, A, w, c, e1, e2, e3, e4, e5⟩ := h
  refine R_asks c (by omega) (fun V2 W2 u2 w2 c2 => ?_)
  rw [e1] at c2 ⊢
  exact k u2 ⟨V2, W2, _, by omega, c2, e1, e2, e3, e4, e5⟩
theorem N_position {x x2 x3 : Int32} {b : Bool} {Q : Int32 → MU → Prop} (h : IN S hi sv y W u) (hW : W + 40 < 2 ^ 20) (k : ∀ u', IN S hi sv y (W + 40) u' → Q (rv (a_position (A0 S) x x2 x3 b)) u') : w_R_position x x2 x3 (bI b) u Q := by
  obtain ⟨V, W1, A, w, c, e1, e2, e3, e4, e5⟩ := h
  exact R'_position c e1 (by omega) (fun V2 W2 u2 w2 c2 => k u2 ⟨V2, W2, A, by omega, c2, e1, e2, e3, e4, e5⟩)
theorem N_positionOf {x x2 : Int32} {Q : Int32 → MU → Prop} (h : IN S hi sv y W u) (hW : W + 40 < 2 ^ 20) (k : ∀ u', IN S hi sv y (W + 40) u' → Q (rv (a_positionOf (A0 S) x x2)) u') : w_R_positionOf x x2 u Q := by
  obtain ⟨V, W1, A, w, c, e1, e2, e3, e4, e5⟩ := h
  exact R'_positionOf c e1 (by omega) (fun V2 W2 u2 w2 c2 => k u2 ⟨V2, W2, A, by omega, c2, e1, e2, e3, e4, e5⟩)
theorem N_outcomeAgain {x : Int32} {Q : Int32 → MU → Prop} (h : IN S hi sv y W u) (hW : W + 40 < 2 ^ 20) (k : ∀ u', IN S hi sv y (W + 40) u' → Q (rv (a_outcomeAgain (A0 S) x)) u') : w_R_outcomeAgain x u Q := by
  obtain ⟨V, W1, A, w, c, e1, e2, e3, e4, e5⟩ := h
  exact R'_outcomeAgain c e1 (by omega) (fun V2 W2 u2 w2 c2 => k u2 ⟨V2, W2, A, by omega, c2, e1, e2, e3, e4, e5⟩)
theorem N_best {x : Int32} {Q : Int32 → MU → Prop} (h : IN S hi sv y W u) (hW : W + 40 < 2 ^ 20) (k : ∀ u', IN S hi sv y (W + 40) u' → Q (rv (a_best (A0 S) x)) u') : w_R_best x u Q := by
  obtain ⟨V, W1, A, w, c, e1, e2, e3, e4, e5⟩ := h
  exact R'_best c e1 (by omega) (fun V2 W2 u2 w2 c2 => k u2 ⟨V2, W2, A, by omega, c2, e1, e2, e3, e4, e5⟩)
theorem N_after {x x2 x3 : Int32} {Q : Int32 → MU → Prop} (h : IN S hi sv y W u) (hW : W + 40 < 2 ^ 20) (k : ∀ u', IN S hi sv y (W + 40) u' → Q (rv (a_after (A0 S) x x2 x3)) u') : w_R_after x x2 x3 u Q := by
  obtain ⟨V, W1, A, w, c, e1, e2, e3, e4, e5⟩ := h
  exact R'_after c e1 (by omega) (fun V2 W2 u2 w2 c2 => k u2 ⟨V2, W2, A, by omega, c2, e1, e2, e3, e4, e5⟩)
theorem N_moveOf {x x2 : Int32} {b : Bool} {Q : Int32 → MU → Prop} (h : IN S hi sv y W u) (hW : W + 40 < 2 ^ 20) (k : ∀ u', IN S hi sv y (W + 40) u' → Q (rv (a_moveOf (A0 S) x x2 b)) u') : w_R_moveOf x x2 (bI b) u Q := by
  obtain ⟨V, W1, A, w, c, e1, e2, e3, e4, e5⟩ := h
  exact R'_moveOf c e1 (by omega) (fun V2 W2 u2 w2 c2 => k u2 ⟨V2, W2, A, by omega, c2, e1, e2, e3, e4, e5⟩)
theorem N_ending {x : Int32} {Q : Int32 → MU → Prop} (h : IN S hi sv y W u) (hW : W + 40 < 2 ^ 20) (k : ∀ u', IN S hi sv y (W + 40) u' → Q (rv (a_ends (A0 S) x)) u') : w_R_ending x u Q := by
  obtain ⟨V, W1, A, w, c, e1, e2, e3, e4, e5⟩ := h
  exact R'_ending c e1 (by omega) (fun V2 W2 u2 w2 c2 => k u2 ⟨V2, W2, A, by omega, c2, e1, e2, e3, e4, e5⟩)
theorem N_count {x : Int32} {b : Bool} {Q : Int32 → MU → Prop} (h : IN S hi sv y W u) (hW : W + 40 < 2 ^ 20) (k : ∀ u', IN S hi sv y (W + 40) u' → Q (rv (a_count (A0 S) x b)) u') : w_R_count x (bI b) u Q := by
  obtain ⟨V, W1, A, w, c, e1, e2, e3, e4, e5⟩ := h
  exact R'_count c e1 (by omega) (fun V2 W2 u2 w2 c2 => k u2 ⟨V2, W2, A, by omega, c2, e1, e2, e3, e4, e5⟩)
theorem N_longest {b : Bool} {Q : Int32 → MU → Prop} (h : IN S hi sv y W u) (hW : W + 40 < 2 ^ 20) (k : ∀ u', IN S hi sv y (W + 40) u' → Q (rv (a_longest (A0 S) b)) u') : w_R_longest (bI b) u Q := by
  obtain ⟨V, W1, A, w, c, e1, e2, e3, e4, e5⟩ := h
  exact R'_longest c e1 (by omega) (fun V2 W2 u2 w2 c2 => k u2 ⟨V2, W2, A, by omega, c2, e1, e2, e3, e4, e5⟩)
theorem N_wonIn {x : Int32} {Q : Int32 → MU → Prop} (h : IN S hi sv y W u) (hW : W + 40 < 2 ^ 20) (k : ∀ u', IN S hi sv y (W + 40) u' → Q (rv (a_wonIn (A0 S) x)) u') : w_R_wonIn x u Q := by
  obtain ⟨V, W1, A, w, c, e1, e2, e3, e4, e5⟩ := h
  exact R'_wonIn c e1 (by omega) (fun V2 W2 u2 w2 c2 => k u2 ⟨V2, W2, A, by omega, c2, e1, e2, e3, e4, e5⟩)
theorem N_wouldChange {x x2 : Int32} {Q : Int32 → MU → Prop} (h : IN S hi sv y W u) (hW : W + 40 < 2 ^ 20) (k : ∀ u', IN S hi sv y (W + 40) u' → Q (rv (a_wouldChange (A0 S) x x2)) u') : w_R_wouldChange x x2 u Q := by
  obtain ⟨V, W1, A, w, c, e1, e2, e3, e4, e5⟩ := h
  exact R'_wouldChange c e1 (by omega) (fun V2 W2 u2 w2 c2 => k u2 ⟨V2, W2, A, by omega, c2, e1, e2, e3, e4, e5⟩)
theorem N_bestBurrow {x : Int32} {Q : Int32 → MU → Prop} (h : IN S hi sv y W u) (hW : W + 40 < 2 ^ 20) (k : ∀ u', IN S hi sv y (W + 40) u' → Q (rv (a_bestBurrow (A0 S) x)) u') : w_R_bestBurrow x u Q := by
  obtain ⟨V, W1, A, w, c, e1, e2, e3, e4, e5⟩ := h
  exact R'_bestBurrow c e1 (by omega) (fun V2 W2 u2 w2 c2 => k u2 ⟨V2, W2, A, by omega, c2, e1, e2, e3, e4, e5⟩)
theorem N_burrowOf {x x2 : Int32} {Q : Int32 → MU → Prop} (h : IN S hi sv y W u) (hW : W + 40 < 2 ^ 20) (k : ∀ u', IN S hi sv y (W + 40) u' → Q (rv (a_burrowOf (A0 S) x x2)) u') : w_R_burrowOf x x2 u Q := by
  obtain ⟨V, W1, A, w, c, e1, e2, e3, e4, e5⟩ := h
  exact R'_burrowOf c e1 (by omega) (fun V2 W2 u2 w2 c2 => k u2 ⟨V2, W2, A, by omega, c2, e1, e2, e3, e4, e5⟩)
theorem N_pathOf {x : Int32} {b : Bool} {Q : Int32 → MU → Prop} (h : IN S hi sv y W u) (hW : W + 40 < 2 ^ 20) (k : ∀ u', IN S hi sv y (W + 40) u' → Q (rv (a_pathOf (A0 S) x b)) u') : w_R_pathOf x (bI b) u Q := by
  obtain ⟨V, W1, A, w, c, e1, e2, e3, e4, e5⟩ := h
  exact R'_pathOf c e1 (by omega) (fun V2 W2 u2 w2 c2 => k u2 ⟨V2, W2, A, by omega, c2, e1, e2, e3, e4, e5⟩)
theorem N_now {Q : Int32 → MU → Prop} (h : IN S hi sv y W u) (hW : W + 40 < 2 ^ 20) (k : ∀ u', IN S hi sv y (W + 40) u' → Q (rv (a_now (A0 S) )) u') : w_R_now  u Q := by
  obtain ⟨V, W1, A, w, c, e1, e2, e3, e4, e5⟩ := h
  exact R'_now c e1 (by omega) (fun V2 W2 u2 w2 c2 => k u2 ⟨V2, W2, A, by omega, c2, e1, e2, e3, e4, e5⟩)
theorem N_account {x : Int32} (hx : ¬ x = 9 ∧ ¬ x = 10) {Q : Int32 → MU → Prop} (h : IN S hi sv y W u) (hW : W + 40 < 2 ^ 20) (k : ∀ u', IN S hi sv y (W + 40) u' → Q (rv (a_account (A0 S) x)) u') : w_R_account x u Q := by
  obtain ⟨V, W1, A, w, c, e1, e2, e3, e4, e5⟩ := h
  exact R'_account hx c e1 (by omega) (fun V2 W2 u2 w2 c2 => k u2 ⟨V2, W2, A, by omega, c2, e1, e2, e3, e4, e5⟩)
/-- a change, whatever comes of it -/
theorem C_gen {op : St → Rs} {wop : (Int32 → MU → Prop) → Prop} (h : IN S hi sv y W u) (hR : ∀ V W' A, W' ≤ W → CI V W' u A none 0 → ∀ Q, RPost W' (a_change A (op A.S)) Q → wop Q) (hlt : ∀ a S', op S = .inr (a, S') → a < 2 ^ 31) {Q : Int32 → MU → Prop} (k0 : ∀ w d u', op S = .inl (w, d) → IN S hi sv (fun z => z = some (w, (d, 0))) (W + 40) u' → Q (-1001) u') (k1 : ∀ a S' u', op S = .inr (a, S') → a < 2 ^ 31 → IN S' (push hi S) sv (fun _ => True) (W + 40) u' → Q (nI a) u') : wop Q := by
  obtain ⟨V, W1, A, w, c, e1, e2, e3, e4, e5⟩ := h
  refine hR V W1 A w c Q (fun V2 W2 u2 w2 c2 => ?_)
  rw [e1] at c2 ⊢
  cases e : op S with
  | inl p =>
    obtain ⟨wd, d⟩ := p
    rw [e] at c2
    exact k0 wd d u2 e ⟨V2, W2, _, by omega, c2, e1, e2, e3, e4, rfl⟩
  | inr p =>
    obtain ⟨a, S'⟩ := p
    rw [e] at c2
    exact k1 a S' u2 e (hlt a S' e) ⟨V2, W2, _, by omega, c2, rfl, (by show push A.hist A.S = push hi S; rw [e1, e2]), e3, e4, trivial⟩
/-- a change that is refused for a known reason -/
theorem X_gen {op : St → Rs} {wop : (Int32 → MU → Prop) → Prop} {w d : Int32} (h : IN S hi sv y W u) (hR : ∀ V W' A, W' ≤ W → CI V W' u A none 0 → ∀ Q, RPost W' (a_change A (op A.S)) Q → wop Q) (e : op S = .inl (w, d)) (k : ∀ u', IN S hi sv (fun z => z = some (w, (d, 0))) (W + 40) u' → F u') : wop (fun r u1 => (¬ r = (-1001 : Int32) → B u1) ∧ (r = (-1001 : Int32) → F u1)) :=
  C_gen h hR (fun a S' e' => by rw [e] at e'; cases e') (fun w' d' u' e' h' => by
    rw [e] at e'
    cases e'
    exact ⟨fun z => absurd rfl z, fun _ => k u' h'⟩) (fun a S' u' e' => by rw [e] at e'; cases e')
/-- a change that is done -/
theorem D_gen {op : St → Rs} {wop : (Int32 → MU → Prop) → Prop} {a : Nat} {S' : St} (h : IN S hi sv y W u) (hR : ∀ V W' A, W' ≤ W → CI V W' u A none 0 → ∀ Q, RPost W' (a_change A (op A.S)) Q → wop Q) (e : op S = .inr (a, S')) (ha : a < 2 ^ 31) {Q : Int32 → MU → Prop} (k : ∀ u', IN S' (push hi S) sv (fun _ => True) (W + 40) u' → Q (nI a) u') : wop Q :=
  C_gen h hR (fun a2 S2 e' => by rw [e] at e'; cases e'; exact ha) (fun w' d' u' e' h' => by rw [e] at e'; cases e') (fun a2 S2 u' e' _ h' => by
    rw [e] at e'
    cases e'
    exact k u' h')
theorem hR_dig : ∀ V W' A, W' ≤ W → CI V W' u A none 0 → ∀ Q, RPost W' (a_change A (opDig A.S )) Q → w_R_dig  u Q := fun _ _ _ hw c Q hq => R_dig c hq
theorem X_dig {w d : Int32} (h : IN S hi sv y W u) (e : opDig S  = .inl (w, d)) (k : ∀ u', IN S hi sv (fun z => z = some (w, (d, 0))) (W + 40) u' → F u') : w_R_dig  u (fun r u1 => (¬ r = (-1001 : Int32) → B u1) ∧ (r = (-1001 : Int32) → F u1)) := X_gen (op := opDig) (wop := w_R_dig  u) h (hR_dig ) e k
theorem D_dig {a : Nat} {S' : St} (h : IN S hi sv y W u) (e : opDig S  = .inr (a, S')) (ha : a < 2 ^ 31) {Q : Int32 → MU → Prop} (k : ∀ u', IN S' (push hi S) sv (fun _ => True) (W + 40) u' → Q (nI a) u') : w_R_dig  u Q := D_gen (op := opDig) (wop := w_R_dig  u) h (hR_dig ) e ha k
theorem hR_tread {x x2 : Int32} : ∀ V W' A, W' ≤ W → CI V W' u A none 0 → ∀ Q, RPost W' (a_change A (opTread A.S x x2)) Q → w_R_tread x x2 u Q := fun _ _ _ hw c Q hq => R_tread c hq
theorem X_tread {x x2 : Int32} {w d : Int32} (h : IN S hi sv y W u) (e : opTread S x x2 = .inl (w, d)) (k : ∀ u', IN S hi sv (fun z => z = some (w, (d, 0))) (W + 40) u' → F u') : w_R_tread x x2 u (fun r u1 => (¬ r = (-1001 : Int32) → B u1) ∧ (r = (-1001 : Int32) → F u1)) := X_gen (op := (fun S => opTread S x x2)) (wop := w_R_tread x x2 u) h (hR_tread ) e k
theorem D_tread {x x2 : Int32} {a : Nat} {S' : St} (h : IN S hi sv y W u) (e : opTread S x x2 = .inr (a, S')) (ha : a < 2 ^ 31) {Q : Int32 → MU → Prop} (k : ∀ u', IN S' (push hi S) sv (fun _ => True) (W + 40) u' → Q (nI a) u') : w_R_tread x x2 u Q := D_gen (op := (fun S => opTread S x x2)) (wop := w_R_tread x x2 u) h (hR_tread ) e ha k
theorem hR_grow {x x2 : Int32} : ∀ V W' A, W' ≤ W → CI V W' u A none 0 → ∀ Q, RPost W' (a_change A (opGrow A.S x x2)) Q → w_R_grow x x2 u Q := fun _ _ _ hw c Q hq => R_grow c hq
theorem X_grow {x x2 : Int32} {w d : Int32} (h : IN S hi sv y W u) (e : opGrow S x x2 = .inl (w, d)) (k : ∀ u', IN S hi sv (fun z => z = some (w, (d, 0))) (W + 40) u' → F u') : w_R_grow x x2 u (fun r u1 => (¬ r = (-1001 : Int32) → B u1) ∧ (r = (-1001 : Int32) → F u1)) := X_gen (op := (fun S => opGrow S x x2)) (wop := w_R_grow x x2 u) h (hR_grow ) e k
theorem D_grow {x x2 : Int32} {a : Nat} {S' : St} (h : IN S hi sv y W u) (e : opGrow S x x2 = .inr (a, S')) (ha : a < 2 ^ 31) {Q : Int32 → MU → Prop} (k : ∀ u', IN S' (push hi S) sv (fun _ => True) (W + 40) u' → Q (nI a) u') : w_R_grow x x2 u Q := D_gen (op := (fun S => opGrow S x x2)) (wop := w_R_grow x x2 u) h (hR_grow ) e ha k
theorem hR_trap {x : Int32} {b : Bool} : ∀ V W' A, W' ≤ W → CI V W' u A none 0 → ∀ Q, RPost W' (a_change A (opTrap A.S x b)) Q → w_R_trap x (bI b) u Q := fun _ _ _ hw c Q hq => R_trap c hq
theorem X_trap {x : Int32} {b : Bool} {w d : Int32} (h : IN S hi sv y W u) (e : opTrap S x b = .inl (w, d)) (k : ∀ u', IN S hi sv (fun z => z = some (w, (d, 0))) (W + 40) u' → F u') : w_R_trap x (bI b) u (fun r u1 => (¬ r = (-1001 : Int32) → B u1) ∧ (r = (-1001 : Int32) → F u1)) := X_gen (op := (fun S => opTrap S x b)) (wop := w_R_trap x (bI b) u) h (hR_trap ) e k
theorem D_trap {x : Int32} {b : Bool} {a : Nat} {S' : St} (h : IN S hi sv y W u) (e : opTrap S x b = .inr (a, S')) (ha : a < 2 ^ 31) {Q : Int32 → MU → Prop} (k : ∀ u', IN S' (push hi S) sv (fun _ => True) (W + 40) u' → Q (nI a) u') : w_R_trap x (bI b) u Q := D_gen (op := (fun S => opTrap S x b)) (wop := w_R_trap x (bI b) u) h (hR_trap ) e ha k
theorem hR_flock {x : Int32} : ∀ V W' A, W' ≤ W → CI V W' u A none 0 → ∀ Q, RPost W' (a_change A (opFlock A.S x)) Q → w_R_flock x u Q := fun _ _ _ hw c Q hq => R_flock c hq
theorem X_flock {x : Int32} {w d : Int32} (h : IN S hi sv y W u) (e : opFlock S x = .inl (w, d)) (k : ∀ u', IN S hi sv (fun z => z = some (w, (d, 0))) (W + 40) u' → F u') : w_R_flock x u (fun r u1 => (¬ r = (-1001 : Int32) → B u1) ∧ (r = (-1001 : Int32) → F u1)) := X_gen (op := (fun S => opFlock S x)) (wop := w_R_flock x u) h (hR_flock ) e k
theorem D_flock {x : Int32} {a : Nat} {S' : St} (h : IN S hi sv y W u) (e : opFlock S x = .inr (a, S')) (ha : a < 2 ^ 31) {Q : Int32 → MU → Prop} (k : ∀ u', IN S' (push hi S) sv (fun _ => True) (W + 40) u' → Q (nI a) u') : w_R_flock x u Q := D_gen (op := (fun S => opFlock S x)) (wop := w_R_flock x u) h (hR_flock ) e ha k
theorem hR_begin {x : Int32} : ∀ V W' A, W' ≤ W → CI V W' u A none 0 → ∀ Q, RPost W' (a_change A (opBegin A.S x)) Q → w_R_begin x u Q := fun _ _ _ hw c Q hq => R_begin c hq
theorem X_begin {x : Int32} {w d : Int32} (h : IN S hi sv y W u) (e : opBegin S x = .inl (w, d)) (k : ∀ u', IN S hi sv (fun z => z = some (w, (d, 0))) (W + 40) u' → F u') : w_R_begin x u (fun r u1 => (¬ r = (-1001 : Int32) → B u1) ∧ (r = (-1001 : Int32) → F u1)) := X_gen (op := (fun S => opBegin S x)) (wop := w_R_begin x u) h (hR_begin ) e k
theorem D_begin {x : Int32} {a : Nat} {S' : St} (h : IN S hi sv y W u) (e : opBegin S x = .inr (a, S')) (ha : a < 2 ^ 31) {Q : Int32 → MU → Prop} (k : ∀ u', IN S' (push hi S) sv (fun _ => True) (W + 40) u' → Q (nI a) u') : w_R_begin x u Q := D_gen (op := (fun S => opBegin S x)) (wop := w_R_begin x u) h (hR_begin ) e ha k
theorem hR_move {x x2 : Int32} : ∀ V W' A, W' ≤ W → CI V W' u A none 0 → ∀ Q, RPost W' (a_change A (opMove A.S x x2)) Q → w_R_move x x2 u Q := fun _ _ _ hw c Q hq => R_move c hq
theorem X_move {x x2 : Int32} {w d : Int32} (h : IN S hi sv y W u) (e : opMove S x x2 = .inl (w, d)) (k : ∀ u', IN S hi sv (fun z => z = some (w, (d, 0))) (W + 40) u' → F u') : w_R_move x x2 u (fun r u1 => (¬ r = (-1001 : Int32) → B u1) ∧ (r = (-1001 : Int32) → F u1)) := X_gen (op := (fun S => opMove S x x2)) (wop := w_R_move x x2 u) h (hR_move ) e k
theorem D_move {x x2 : Int32} {a : Nat} {S' : St} (h : IN S hi sv y W u) (e : opMove S x x2 = .inr (a, S')) (ha : a < 2 ^ 31) {Q : Int32 → MU → Prop} (k : ∀ u', IN S' (push hi S) sv (fun _ => True) (W + 40) u' → Q (nI a) u') : w_R_move x x2 u Q := D_gen (op := (fun S => opMove S x x2)) (wop := w_R_move x x2 u) h (hR_move ) e ha k
theorem hR_play {x : Int32} (hW : W + 40 < 2 ^ 20) : ∀ V W' A, W' ≤ W → CI V W' u A none 0 → ∀ Q, RPost W' (a_change A (opPlay A.S x)) Q → w_R_play x u Q := fun _ _ _ hw c Q hq => R_play c (by omega) hq
theorem X_play {x : Int32} (hW : W + 40 < 2 ^ 20) {w d : Int32} (h : IN S hi sv y W u) (e : opPlay S x = .inl (w, d)) (k : ∀ u', IN S hi sv (fun z => z = some (w, (d, 0))) (W + 40) u' → F u') : w_R_play x u (fun r u1 => (¬ r = (-1001 : Int32) → B u1) ∧ (r = (-1001 : Int32) → F u1)) := X_gen (op := (fun S => opPlay S x)) (wop := w_R_play x u) h (hR_play hW ) e k
theorem D_play {x : Int32} (hW : W + 40 < 2 ^ 20) {a : Nat} {S' : St} (h : IN S hi sv y W u) (e : opPlay S x = .inr (a, S')) (ha : a < 2 ^ 31) {Q : Int32 → MU → Prop} (k : ∀ u', IN S' (push hi S) sv (fun _ => True) (W + 40) u' → Q (nI a) u') : w_R_play x u Q := D_gen (op := (fun S => opPlay S x)) (wop := w_R_play x u) h (hR_play hW ) e ha k
theorem hR_back : ∀ V W' A, W' ≤ W → CI V W' u A none 0 → ∀ Q, RPost W' (a_change A (opBack A.S )) Q → w_R_back  u Q := fun _ _ _ hw c Q hq => R_back c hq
theorem X_back {w d : Int32} (h : IN S hi sv y W u) (e : opBack S  = .inl (w, d)) (k : ∀ u', IN S hi sv (fun z => z = some (w, (d, 0))) (W + 40) u' → F u') : w_R_back  u (fun r u1 => (¬ r = (-1001 : Int32) → B u1) ∧ (r = (-1001 : Int32) → F u1)) := X_gen (op := opBack) (wop := w_R_back  u) h (hR_back ) e k
theorem D_back {a : Nat} {S' : St} (h : IN S hi sv y W u) (e : opBack S  = .inr (a, S')) (ha : a < 2 ^ 31) {Q : Int32 → MU → Prop} (k : ∀ u', IN S' (push hi S) sv (fun _ => True) (W + 40) u' → Q (nI a) u') : w_R_back  u Q := D_gen (op := opBack) (wop := w_R_back  u) h (hR_back ) e ha k
theorem N_undo0 {Q : Int32 → MU → Prop} (h : IN S [] sv y W u) (k : ∀ u', IN S [] sv y (W + 40) u' → Q (-1001) u') : w_R_undo u Q := by
  obtain ⟨V, W1, A, w, c, e1, e2, e3, e4, e5⟩ := h
  have ea : a_undo A = (1, (0, A)) := by
    unfold a_undo
    rw [e2]
    rfl
  refine R_undo c (fun V2 W2 u2 w2 c2 => ?_)
  rw [ea] at c2 ⊢
  exact k u2 ⟨V2, W2, A, by omega, c2, e1, e2, e3, e4, e5⟩
theorem N_undo {Q : Int32 → MU → Prop} (h : IN S (D ++ [T]) sv y W u) (k : ∀ u', IN T D sv (fun _ => True) (W + 40) u' → Q (nI D.length) u') : w_R_undo u Q := by
  obtain ⟨V, W1, A, w, c, e1, e2, e3, e4, e5⟩ := h
  have ea : a_undo A = (0, (nI D.length, (A.setS T).setH D)) := by
    unfold a_undo
    rw [e2]
    simp
  refine R_undo c (fun V2 W2 u2 w2 c2 => ?_)
  rw [ea] at c2 ⊢
  exact k u2 ⟨V2, W2, _, by omega, c2, rfl, rfl, e3, e4, trivial⟩
theorem N_restore0 {Q : Int32 → MU → Prop} (h : IN S hi none y W u) (k : ∀ u', IN S hi none y (W + 40) u' → Q (-1001) u') : w_R_restore u Q := by
  obtain ⟨V, W1, A, w, c, e1, e2, e3, e4, e5⟩ := h
  have ea : a_restore A = (1, (0, A)) := by
    unfold a_restore
    rw [e3]
  refine R_restore c (fun V2 W2 u2 w2 c2 => ?_)
  rw [ea] at c2 ⊢
  exact k u2 ⟨V2, W2, A, by omega, c2, e1, e2, e3, e4, e5⟩
theorem N_restore {Q : Int32 → MU → Prop} (h : IN S hi (some T) y W u) (k : ∀ u', IN T [] (some T) (fun _ => True) (W + 40) u' → Q (nI T.n) u') : w_R_restore u Q := by
  obtain ⟨V, W1, A, w, c, e1, e2, e3, e4, e5⟩ := h
  have ea : a_restore A = (0, (nI T.n, (A.setS T).setH [])) := by
    unfold a_restore
    rw [e3]
  refine R_restore c (fun V2 W2 u2 w2 c2 => ?_)
  rw [ea] at c2 ⊢
  exact k u2 ⟨V2, W2, _, by omega, c2, rfl, rfl, e3, e4, trivial⟩
theorem N_save {Q : Int32 → MU → Prop} (h : IN S hi sv y W u) (k : ∀ u', IN S hi (some S) y (W + 40) u' → Q (nI S.n) u') : w_X9_save u Q := by
  obtain ⟨V, W1, A, w, c, e1, e2, e3, e4, e5⟩ := h
  refine R_save c (fun V2 W2 u2 w2 c2 => ?_)
  have ea : rv (a_save A) = nI S.n := by
    unfold a_save
    rw [e1]; rfl
  rw [ea]
  exact k u2 ⟨V2, W2, A.setV (some A.S), by omega, c2, e1, e2, (by show some A.S = some S; rw [e1]), e4, e5⟩
/-! texts -/
theorem zCh (x : Int32) : chI (zChr x) := by
  obtain ⟨q, hq, e⟩ := zChr_n x
  exact ⟨q, by omega, e⟩
set_option maxRecDepth 100000 in
theorem R_does {V : Nat → Cfg} {A : Ab} (hC : CI V W u A none 0) (hT : A.text = []) {bs : List Int32} (hb : bs.length ≤ 60) (hW : W + 2500 < 2 ^ 20) {Q : Int32 → MU → Prop} (hq : ∀ V' W' u', W' ≤ W + 2500 → CI V' W' u' (a_commands (A.setT (bs.map zChr))).2.2 none 0 → Q (rv (a_commands (A.setT (bs.map zChr)))) u') : w_R_does bs u Q := by
  have loop : ∀ (m i : Nat) (V1 : Nat → Cfg) (W1 : Nat) (u1 : MU), i + m = bs.length → W1 ≤ W + 40 * i → CI V1 W1 u1 (A.setT ((bs.take i).map zChr)) none 0 → wl_R_does_2 bs Q (m + 1) (nI i) u1 := by
    intro m
    induction m with
    | zero =>
      intro i V1 W1 u1 hi hw c
      rw [wl_R_does_2]
      refine ⟨fun _ => ?_, fun z => absurd (nI_le (by omega) (by omega)) z⟩
      rw [List.take_of_length_le (by omega)] at c
      exact R_commands c (by omega) (fun V2 W2 u2 w2 c2 => hq V2 W2 u2 (by omega) c2)
    | succ m ih =>
      intro i V1 W1 u1 hi hw c
      rw [wl_R_does_2]
      have hlt : i < bs.length := by omega
      refine ⟨fun z => absurd ((nI_leI (by omega) (by omega)).mp z) (by omega), fun _ => ⟨i, rfl, ⟨hlt, by omega⟩, R_append (zCh _) c (fun V2 W2 u2 w2 c2 => ?_)⟩⟩
      have hl : ((bs.take i).map zChr).length = i := by rw [List.length_map, List.length_take]; omega
      have ea : a_append (A.setT ((bs.take i).map zChr)) (zChr (bs.getD i 0)) = (0, (nI (i + 1), A.setT ((bs.take (i + 1)).map zChr))) := by
        unfold a_append
        rw [show (A.setT ((bs.take i).map zChr)).text = (bs.take i).map zChr from rfl, hl, if_pos (by omega), List.take_add_one, List.map_append, List.getD_eq_getElem?_getD, List.getElem?_eq_getElem hlt]
        rfl
      rw [ea] at c2 ⊢
      refine ⟨fun _ x ex => ?_, fun z => absurd (by show nI (i + 1) = nI i + 1; rw [nI_1]) z⟩
      rw [nI_1] at ex
      subst ex
      exact ih (i + 1) V2 W2 u2 (by omega) (by omega) c2
  unfold w_R_does
  refine ⟨bs.length + 1, by omega, loop bs.length 0 V W u (by omega) (by omega) ?_⟩
  show CI V W u (A.setT []) none 0
  rw [show A.setT [] = A by rw [← hT]; rfl]
  exact hC
set_option maxRecDepth 100000 in
theorem N_does {bs : List Int32} (hb : bs.length ≤ 60) (h : IN S hi sv y W u) (hW : W + 2500 < 2 ^ 20) {Q : Int32 → MU → Prop}
    (k1 : ∀ p u', (prs (bs.map zChr) 31 0).2 = some p → IN S hi sv y (W + 2500) u' → u' 0 13 = nI p → Q (-1001) u')
    (k2 : ∀ w d i u', (prs (bs.map zChr) 31 0).2 = none → runC S (prs (bs.map zChr) 31 0).1 0 = .inl (w, (d, i)) → IN S hi sv (fun z => z = some (w, (d, nI i))) (W + 2500) u' → u' 0 13 = -1 → Q (-1002) u')
    (k3 : ∀ S' u', (prs (bs.map zChr) 31 0).2 = none → runC S (prs (bs.map zChr) 31 0).1 0 = .inr S' → IN S' (push hi S) sv (fun _ => True) (W + 2500) u' → Q (nI (prs (bs.map zChr) 31 0).1.length) u') : w_R_does bs u Q := by
  obtain ⟨V, W1, A, w, c, e1, e2, e3, e4, e5⟩ := h
  refine R_does c e4 hb (by omega) (fun V2 W2 u2 w2 c2 => ?_)
  unfold a_commands at c2 ⊢
  rw [show (A.setT (bs.map zChr)).text = bs.map zChr from rfl, show (A.setT (bs.map zChr)).S = S from e1] at c2 ⊢
  cases ep : (prs (bs.map zChr) 31 0).2 with
  | some p =>
    rw [ep] at c2
    exact k1 p u2 ep ⟨V2, W2, _, by omega, c2, e1, e2, e3, rfl, e5⟩ c2.M.1
  | none =>
    rw [ep] at c2
    cases er : runC S (prs (bs.map zChr) 31 0).1 0 with
    | inl q =>
      obtain ⟨w9, d, i⟩ := q
      simp only [er] at c2
      exact k2 w9 d i u2 ep er ⟨V2, W2, _, by omega, c2, e1, e2, e3, rfl, rfl⟩ c2.M.1
    | inr S' =>
      simp only [er] at c2
      exact k3 S' u2 ep er ⟨V2, W2, _, by omega, c2, rfl, (by show push A.hist S = push hi S; rw [e2]), e3, rfl, trivial⟩
end ZN
/-! the script, and remainders -/
theorem R_at {xs : Nat → Int32} {L : Nat} (hL : L ≤ 260) {k : Nat} (hk : k < 2 ^ 20) {Q : Int32 → Prop} (h : ∀ v, Q v) : w_R_at xs L (nI k) Q := by
  unfold w_R_at
  refine ⟨fun _ => h _, fun z => ⟨?_, h _⟩⟩
  have hz : ¬ nI L ≤ nI k := z
  rw [nI_leI (by omega) (by omega)] at hz
  exact vp_in_nI (by omega) (by omega)
theorem irem_toInt (x : Int32) {n : Nat} (h0 : 0 < n) (hn : n < 2 ^ 20) : (x - x / nI n * nI n).toInt = x.toInt.tmod n := by
  have e1 : (nI n).toInt = (n : Int) := nI_toInt (by omega)
  have h1 := Int32.le_toInt x
  have h2 := Int32.toInt_lt x
  have h3 : -(n : Int) < x.toInt.tmod n ∧ x.toInt.tmod n < n := ⟨by have := Int.lt_tmod_of_pos x.toInt (show (0 : Int) < n by omega); omega, Int.tmod_lt_of_pos _ (by omega)⟩
  have h4 : x.toInt.tmod n = x.toInt - x.toInt.tdiv n * n := by have := Int.tmod_add_mul_tdiv x.toInt n; rw [Int.mul_comm] at this; omega
  rw [Int32.toInt_sub, Int32.toInt_mul, Int32.toInt_div, e1]
  simp only [Int.bmod_mul_bmod, Int.sub_bmod_bmod, Int.bmod_sub_bmod]
  rw [← h4]
  exact Int.bmod_eq_of_le (by omega) (by omega)
theorem R_some {x : Int32} {n : Nat} (h0 : 0 < n) (hn : n < 2 ^ 20) {Q : Int32 → Prop} (h : ∀ j, j < n → Q (nI j)) : w_R_some x (nI n) Q := by
  unfold w_R_some
  refine ⟨nI_ne0 h0 (by omega), fun z ez => ?_⟩
  have e := irem_toInt x h0 hn
  rw [← ez] at e
  have h3 : -(n : Int) < x.toInt.tmod n ∧ x.toInt.tmod n < n := ⟨by have := Int.lt_tmod_of_pos x.toInt (show (0 : Int) < n by omega); omega, Int.tmod_lt_of_pos _ (by omega)⟩
  refine ⟨fun hz => ?_, fun hz => ?_⟩
  · have hz' : (0 : Int) ≤ z.toInt := Int32.le_iff_toInt_le.mp hz
    have : z = nI z.toInt.toNat := Int32.toInt_inj.mp (by rw [nI_toInt (by omega)]; omega)
    rw [this]
    exact h _ (by omega)
  · have hz' : z.toInt < 0 := by
      have this : ¬ (0 : Int32).toInt ≤ z.toInt := fun q => hz (Int32.le_iff_toInt_le.mpr q)
      have h9 : (0 : Int32).toInt = 0 := rfl
      rw [h9] at this
      omega
    have : z + nI n = nI (z.toInt + n).toNat := Int32.toInt_inj.mp (by
      rw [nI_toInt (by omega), Int32.toInt_add, nI_toInt (by omega), Int.bmod_eq_of_le (by omega) (by omega)]; omega)
    rw [this]
    exact h _ (by omega)

