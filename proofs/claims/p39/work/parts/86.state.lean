/-! THE ABSTRACT MACHINE: what there is, as mathematics -/
abbrev Gm : Type := List (Nat × Nat) × Nat
def St : Type := Nat × (Nat × (Nat × (List (Nat × Nat) × (Option Gm × Int32))))
def St.n (S : St) : Nat := S.1
def St.traps (S : St) : Nat := S.2.1
def St.geese (S : St) : Nat := S.2.2.1
def St.ps (S : St) : List (Nat × Nat) := S.2.2.2.1
def St.game (S : St) : Option Gm := S.2.2.2.2.1
def St.begun (S : St) : Int32 := S.2.2.2.2.2
def mkS (n t g : Nat) (ps : List (Nat × Nat)) (gm : Option Gm) (b : Int32) : St := (n, (t, (g, (ps, (gm, b)))))
def smP (a b : Nat) (q : Nat × Nat) : Bool := (decide (q.1 = a) && decide (q.2 = b)) || (decide (q.1 = b) && decide (q.2 = a))
def adjB (ps : List (Nat × Nat)) (a b : Nat) : Bool := ps.any (smP a b)
def nearP (ps : List (Nat × Nat)) (a : Nat) : Nat := bits (fun b => adjB ps a b) 8
def St.cfg (S : St) : Cfg := (S.n, (S.traps, (S.geese, nearP S.ps)))
def gmOk (c : Cfg) (g : Option Gm) : Prop := ∀ h p, g = some (h, p) → h.length ≤ 40 ∧ posB c p = true ∧ ∀ q, q ∈ h → posB c q.1 = true ∧ q.2 < 64
def psOk (n : Nat) (ps : List (Nat × Nat)) : Prop := ps.length ≤ 16 ∧ (∀ q, q ∈ ps → q.1 < n ∧ q.2 < n ∧ q.1 ≠ q.2) ∧ ps.Pairwise (fun x y => smP x.1 x.2 y = false)
def StOk (S : St) : Prop := S.n ≤ 8 ∧ (S.geese = 1 ∨ S.geese = 2) ∧ S.traps < 256 ∧ psOk S.n S.ps ∧ gmOk S.cfg S.game
theorem smP_spec {a b : Nat} {q : Nat × Nat} : smP a b q = true ↔ (q.1 = a ∧ q.2 = b) ∨ (q.1 = b ∧ q.2 = a) := by
  unfold smP
  rw [Bool.or_eq_true, Bool.and_eq_true, Bool.and_eq_true, decide_eq_true_eq, decide_eq_true_eq, decide_eq_true_eq, decide_eq_true_eq]
theorem smP_comm (a b : Nat) (q : Nat × Nat) : smP a b q = smP b a q := by unfold smP; rw [Bool.or_comm]
theorem adjB_comm (ps : List (Nat × Nat)) (a b : Nat) : adjB ps a b = adjB ps b a := by
  unfold adjB
  congr 1
  funext q
  exact smP_comm a b q
theorem adjB_in {n : Nat} {ps : List (Nat × Nat)} (h : psOk n ps) {a b : Nat} (hb : adjB ps a b = true) : a < n ∧ b < n ∧ a ≠ b := by
  obtain ⟨q, hq, h1⟩ := List.any_eq_true.mp hb
  have := h.2.1 q hq
  rcases smP_spec.mp h1 with ⟨e1, e2⟩ | ⟨e1, e2⟩ <;> subst e1 <;> subst e2
  · exact this
  · exact ⟨this.2.1, this.1, fun e => this.2.2 e.symm⟩
theorem nearP_test (ps : List (Nat × Nat)) (a b : Nat) : (nearP ps a).testBit b = (decide (b < 8) && adjB ps a b) := bits_test _ _ _
theorem nearP_lt (ps : List (Nat × Nat)) (a : Nat) : nearP ps a < 256 := bits_lt _ 8
theorem nearP_in {n : Nat} {ps : List (Nat × Nat)} (h : psOk n ps) (hn : n ≤ 8) {a b : Nat} : (nearP ps a).testBit b = adjB ps a b := by
  rw [nearP_test]
  cases e : adjB ps a b
  · rw [Bool.and_false]
  · have := adjB_in h e
    rw [decide_eq_true (by omega)]; rfl
theorem StOk.cfg {S : St} (h : StOk S) : CfgOk S.cfg := by
  obtain ⟨h1, h2, h3, h4, h5⟩ := h
  refine ⟨h1, h2, h3, fun a => nearP_lt _ _, fun a b hb => ?_, fun a b => ?_⟩
  · have e : (nearP S.ps a).testBit b = true := hb
    rw [nearP_in h4 h1] at e
    exact adjB_in h4 e
  · show (nearP S.ps a).testBit b = (nearP S.ps b).testBit a
    rw [nearP_in h4 h1, nearP_in h4 h1, adjB_comm]
/-- which path it is -/
def pix (a b : Nat) : List (Nat × Nat) → Nat → Option Nat
  | [], _ => none
  | q :: t, i => if smP a b q = true then some i else pix a b t (i + 1)
theorem pix_none {a b : Nat} : ∀ (l : List (Nat × Nat)) (i : Nat), pix a b l i = none ↔ adjB l a b = false
  | [], i => by rw [pix]; exact ⟨fun _ => rfl, fun _ => rfl⟩
  | q :: t, i => by
    have ih := pix_none (a := a) (b := b) t (i + 1)
    unfold adjB at ih ⊢
    rw [pix, List.any_cons]
    cases e : smP a b q
    · rw [if_neg Bool.false_ne_true, Bool.false_or]; exact ih
    · rw [if_pos rfl, Bool.true_or]; exact ⟨fun h => (by cases h), fun h => (by cases h)⟩
theorem pix_some {a b : Nat} : ∀ (l : List (Nat × Nat)) (i j : Nat), pix a b l i = some j → ∃ m q, j = i + m ∧ l[m]? = some q ∧ smP a b q = true
  | [], i, j, h => by rw [pix] at h; cases h
  | q :: t, i, j, h => by
    rw [pix] at h
    by_cases e : smP a b q = true
    · rw [if_pos e] at h
      cases h
      exact ⟨0, q, rfl, rfl, e⟩
    · rw [if_neg e] at h
      obtain ⟨m, q', h1, h2, h3⟩ := pix_some t (i + 1) j h
      exact ⟨m + 1, q', by omega, by rw [List.getElem?_cons_succ]; exact h2, h3⟩
/-- all that is kept: the state, the snapshot, the changes, the text, the line, the reason, the fault -/
def Ab : Type := St × (Option St × (List St × (List Int32 × (List Int32 × (Option (Int32 × (Int32 × Int32)) × Int32)))))
def Ab.S (A : Ab) : St := A.1
def Ab.sv (A : Ab) : Option St := A.2.1
def Ab.hist (A : Ab) : List St := A.2.2.1
def Ab.text (A : Ab) : List Int32 := A.2.2.2.1
def Ab.line (A : Ab) : List Int32 := A.2.2.2.2.1
def Ab.why (A : Ab) : Option (Int32 × (Int32 × Int32)) := A.2.2.2.2.2.1
def Ab.fault (A : Ab) : Int32 := A.2.2.2.2.2.2
def mkA (S : St) (sv : Option St) (hi : List St) (tx li : List Int32) (wh : Option (Int32 × (Int32 × Int32))) (fa : Int32) : Ab := (S, (sv, (hi, (tx, (li, (wh, fa))))))
def Ab.setS (A : Ab) (S : St) : Ab := mkA S A.sv A.hist A.text A.line A.why A.fault
def Ab.setWhy (A : Ab) (w d i : Int32) : Ab := mkA A.S A.sv A.hist A.text A.line (some (w, (d, i))) A.fault
def chI (x : Int32) : Prop := ∃ n : Nat, n < 65536 ∧ x = nI n
def AbOk (A : Ab) : Prop := StOk A.S ∧ (∀ S, A.sv = some S → StOk S) ∧ A.hist.length ≤ 8 ∧ (∀ S, S ∈ A.hist → StOk S) ∧ A.text.length ≤ 60 ∧ (∀ x, x ∈ A.text → chI x) ∧ A.line.length ≤ 160 ∧ (∀ x, x ∈ A.line → chI x) ∧ ∀ w d i, A.why = some (w, (d, i)) → ¬ w = 0
