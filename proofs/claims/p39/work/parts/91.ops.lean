/-! WHAT THE CHANGES DO, as mathematics: a refusal (reason, detail), or an answer and the new state -/
abbrev Rs : Type := (Int32 × Int32) ⊕ (Nat × St)
abbrev cl (x : Int32) : Nat := x.toNatClampNeg
def opDig (S : St) : Rs := if S.n < 8 then .inr (S.n, mkS (S.n + 1) S.traps S.geese S.ps none S.begun) else .inl (2, 8)
def opTread (S : St) (x y : Int32) : Rs :=
  if hasI S.cfg x = false then .inl (3, x) else if hasI S.cfg y = false then .inl (3, y) else if x = y then .inl (4, x)
  else match pix (cl x) (cl y) S.ps 0 with
    | some _ => .inl (5, 0)
    | none => if S.ps.length < 16 then .inr (S.ps.length, mkS S.n S.traps S.geese (S.ps ++ [(cl x, cl y)]) none S.begun) else .inl (2, 16)
def opGrow (S : St) (x y : Int32) : Rs :=
  if hasI S.cfg x = false then .inl (3, x) else if hasI S.cfg y = false then .inl (3, y)
  else match pix (cl x) (cl y) S.ps 0 with
    | some i => .inr (S.ps.length - 1, mkS S.n S.traps S.geese (S.ps.eraseIdx i) none S.begun)
    | none => .inl (6, x)
def opTrap (S : St) (x : Int32) (b : Bool) : Rs :=
  if hasI S.cfg x = false then .inl (3, x) else if S.traps.testBit (cl x) = b then .inl (5, 0)
  else .inr (pcN (S.traps ^^^ 2 ^ cl x), mkS S.n (S.traps ^^^ 2 ^ cl x) S.geese S.ps none S.begun)
def opFlock (S : St) (x : Int32) : Rs :=
  if x < 1 then .inl (1, 0) else if 2 < x then .inl (1, 0) else if x = nI S.geese then .inl (5, 0)
  else .inr (S.geese, mkS S.n S.traps (cl x) S.ps none S.begun)
def opBegin (S : St) (x : Int32) : Rs :=
  if posI S.cfg x = false then .inl (7, x) else .inr ((mvs S.cfg (cl x)).length, mkS S.n S.traps S.geese S.ps (some ([], cl x)) (S.begun + 1))
def opMove (S : St) (x y : Int32) : Rs := match S.game with
  | none => .inl (8, 0)
  | some (h, p) => if (mvs S.cfg p).length = 0 then .inl (9, nI h.length) else if alI S.cfg p x y = false then .inl (10, nI (mvs S.cfg p).length) else if h.length < 40 then .inr ((mvs S.cfg (sh p (cl x) (cl y))).length, mkS S.n S.traps S.geese S.ps (some (h ++ [(p, 8 * cl x + cl y)], sh p (cl x) (cl y))) S.begun) else .inl (2, 40)
/-- so many moves are played: the game then, and how many -/
noncomputable def plG (c : Cfg) : Nat → Gm → Gm × Nat
  | 0, g => (g, 0)
  | n + 1, g => if 40 ≤ g.1.length then (g, 0) else match bestK c (slv c) g.2 with
    | none => (g, 0)
    | some k => ((plG c n (g.1 ++ [(g.2, k)], sh g.2 (k / 8) (k % 8))).1, (plG c n (g.1 ++ [(g.2, k)], sh g.2 (k / 8) (k % 8))).2 + 1)
noncomputable def opPlay (S : St) (x : Int32) : Rs :=
  if x < 1 then .inl (1, 0) else if 40 < x then .inl (1, 0) else match S.game with
    | none => .inl (8, 0)
    | some (h, p) => if (mvs S.cfg p).length = 0 then .inl (9, nI h.length) else if h.length < 40 then .inr ((plG S.cfg (cl x) (h, p)).2, mkS S.n S.traps S.geese S.ps (some (plG S.cfg (cl x) (h, p)).1) S.begun) else .inl (2, 40)
def opBack (S : St) : Rs := match S.game with
  | none => .inl (8, 0)
  | some (h, _) => match h.getLast? with
    | none => .inl (11, 0)
    | some q => .inr (h.length - 1, mkS S.n S.traps S.geese S.ps (some (h.dropLast, q.1)) S.begun)
/-- what the class's change must do: refused: the reason is kept; or the state is the new one -/
def CRes (V : Nat → Cfg) (W : Nat) (A : Ab) (B : Bf) (i : Int32) (Q : Int32 → MU → Prop) : Rs → Prop
  | .inl (w, d) => ∀ u', CI V W u' (A.setWhy w d i) B i → Q (-1) u'
  | .inr (a, S) => ∀ V' W' u', W' ≤ W + 1 → CI V' W' u' (A.setS S) B i → Q (nI a) u'
theorem mk_n {n t g : Nat} {ps : List (Nat × Nat)} {gm : Option Gm} {b : Int32} : (mkS n t g ps gm b).n = n := rfl
theorem s_dig {V : Nat → Cfg} {W : Nat} {u : MU} {A : Ab} {B : Bf} {i : Int32} (hC : CI V W u A B i) {Q : Int32 → MU → Prop} (hq : CRes V W A B i Q (opDig A.S)) : w_X9_addBurrow u Q := by
  have hS := hC.S
  obtain ⟨s1, s2, s3, s4, s5⟩ := hS
  have hF := hC.F
  unfold w_X9_addBurrow
  have e0 : u 2 0 = nI A.S.n := hF.1
  unfold opDig at hq
  refine ⟨fun h a1 e1 => ?_, fun h => ?_⟩
  · rw [e0] at h
    have hn : A.S.n < 8 := (nI_ltI (b := 8) (by omega) (by decide)).mp h
    rw [if_pos hn] at hq
    have hS' : StOk (mkS (A.S.n + 1) A.S.traps A.S.geese A.S.ps none A.S.begun) := ⟨by show A.S.n + 1 ≤ 8; omega, s2, s3, psOk_mono (Nat.le_succ _) s4, fun h p e => by cases e⟩
    have f2 : ∀ j, j ≠ 0 → a1 2 j = u 2 j := fun j hj => by rw [e1]; exact u2_o (Or.inr hj)
    have fr : ∀ a, a ≠ 2 → a1 a = u a := fun a ha => by rw [e1]; exact u2_ne ha
    have f20 : a1 2 0 = nI (A.S.n + 1) := by rw [e1, u2_at, e0, nI_1]
    refine s_marked hC hS' (fun a ha => fr a (by omega)) ⟨f20, ?_, ?_, fun b hb => ?_⟩ ?_ (fun j q hj => ?_) rfl rfl (fun u' V' g1 g2 => ?_)
    · rw [f2 2 (by decide)]; exact hF.2.1
    · rw [f2 3 (by decide)]; exact hF.2.2.1
    · rw [fr 5 (by decide)]; exact hF.2.2.2 b hb
    · rw [f2 1 (by decide)]; exact hC.B.2.1
    · rw [fr 3 (by decide), fr 4 (by decide)]; exact hC.B.2.2.1 j q hj
    · rw [g2 0 (by decide), f20, nI_pred]
      exact hq V' (W + 1) u' (Nat.le_refl _) g1
  · rw [e0] at h
    have hn : ¬ A.S.n < 8 := fun z => h (nI_lt (b := 8) z (by decide))
    rw [if_neg hn] at hq
    exact s_refused hC (by decide) hq
/-- whether a burrow is missing: told as a refusal -/
theorem s_missing {V : Nat → Cfg} {W : Nat} {u : MU} {A : Ab} {B : Bf} {i : Int32} (hC : CI V W u A B i) {x : Int32} {Q : Int32 → MU → Prop} (h1 : hasI A.S.cfg x = true → Q 0 u) (h2 : hasI A.S.cfg x = false → ∀ u', CI V W u' (A.setWhy 3 x i) B i → Q 1 u') : w_X9_isRefusedFor x u Q := by
  unfold w_X9_isRefusedFor
  refine s_has hC.F (bI_br (fun e => ?_) (fun e => h1 e))
  exact s_refused hC (by decide) (fun u' g => h2 e u' g)
/-- the path between two burrows -/
theorem s_between {u : MU} {S : St} (hS : StOk S) (hB : BIs u 1 S) {a b : Nat} (ha : a < 8) (hb : b < 8) {Q : Int32 → Prop} (hq : Q (optI (pix a b S.ps 0))) : w_X1_pathBetween 2 u (nI a) (nI b) Q := by
  have hl := hS.2.2.2.1.1
  have loop : ∀ (t d : List (Nat × Nat)), S.ps = d ++ t → Q (optI (pix a b t d.length)) → wl_X1_pathBetween_2 2 u Q (t.length + 1) (nI a) (nI b) (nI d.length) := by
    intro t
    induction t with
    | nil =>
      intro d hd hq
      rw [List.append_nil] at hd
      rw [List.length_nil, wl_X1_pathBetween_2]
      refine ⟨fun _ => hq, fun z => absurd ?_ z⟩
      rw [show u 2 1 = nI S.ps.length from hB.2.1, hd]; exact nI_le (Nat.le_refl _) (by rw [← hd]; omega)
    | cons q t ih =>
      intro d hd hq
      have hlen : S.ps.length = d.length + (t.length + 1) := by rw [hd, List.length_append, List.length_cons]
      have hget : S.ps[d.length]? = some q := by rw [hd, List.getElem?_append_right (Nat.le_refl _), Nat.sub_self]; rfl
      obtain ⟨r1, r2⟩ := hB.2.2.1 d.length q hget
      have hqn := hS.2.2.2.1.2.1 q (List.mem_of_getElem? hget)
      have hn := hS.1
      rw [pix] at hq
      rw [List.length_cons, wl_X1_pathBetween_2]
      refine ⟨fun z => absurd z (by rw [show u 2 1 = nI S.ps.length from hB.2.1]; exact nI_ge (by omega) (by omega)), fun _ => s_at (N := 16) rfl (by omega) (by decide) (s_at (N := 16) rfl (by omega) (by decide) ?_)⟩
      rw [show u (2 + 1) d.length = nI q.1 from r1, show u (2 + 2) d.length = nI q.2 from r2]
      have next : smP a b q = false → wb_X1_pathBetween_56 (fun x1' x2' x3' => wl_X1_pathBetween_2 2 u Q (t.length + 1) x1' x2' x3') 2 u Q (nI a) (nI b) (nI d.length) := fun e x3 hx3 => by
        rw [hx3, nI_1]
        rw [e, if_neg Bool.false_ne_true] at hq
        have := ih (d ++ [q]) (by rw [hd, List.append_assoc]; rfl) (by rw [List.length_append, List.length_singleton]; exact hq)
        rw [List.length_append, List.length_singleton] at this
        exact this
      have yes : smP a b q = true → Q (nI d.length) := fun e => by rw [if_pos e] at hq; exact hq
      have i1 := nI_eq (a := q.1) (b := a) (by omega) (by omega)
      have i2 := nI_eq (a := q.2) (b := b) (by omega) (by omega)
      have i3 := nI_eq (a := q.1) (b := b) (by omega) (by omega)
      have i4 := nI_eq (a := q.2) (b := a) (by omega) (by omega)
      have no : ¬ ((q.1 = a ∧ q.2 = b) ∨ (q.1 = b ∧ q.2 = a)) → smP a b q = false := fun z => by
        cases e : smP a b q
        · rfl
        · exact absurd (smP_spec.mp e) z
      have swap : ¬ (q.1 = a ∧ q.2 = b) → wb_X1_pathBetween_42 (fun x1' x2' x3' => wl_X1_pathBetween_2 2 u Q (t.length + 1) x1' x2' x3') 2 u Q (nI a) (nI b) (nI d.length) (nI q.1) (nI q.2) := fun hn => by
        unfold wb_X1_pathBetween_42
        refine ⟨fun z => next (no (fun z2 => ?_)), fun z => ⟨fun z3 => next (no (fun z2 => ?_)), fun z3 => yes (smP_spec.mpr (Or.inr ⟨i3.mp z, i4.mp z3⟩))⟩⟩
        · rcases z2 with z2 | z2
          · exact hn z2
          · exact z (i3.mpr z2.1)
        · rcases z2 with z2 | z2
          · exact hn z2
          · exact z3 (i4.mpr z2.2)
      exact ⟨fun z => swap (fun z2 => z (i1.mpr z2.1)), fun z => ⟨fun z2 => yes (smP_spec.mpr (Or.inl ⟨i1.mp z, i2.mp z2⟩)), fun z2 => swap (fun z3 => z2 (i2.mpr z3.2))⟩⟩
  unfold w_X1_pathBetween
  exact ⟨S.ps.length + 1, loop S.ps [] rfl hq⟩
