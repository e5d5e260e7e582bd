/-! the class's queries of positions -/
def posVal (c : Cfg) (p : Nat) (y : Int32) : Int32 := if y = 0 then nI (fx p) else if y = 1 then nI (fi p) else if y = 2 then nI (se p) - 1 else if y = 3 then nI (tu p) else if y = 4 then nI (mvs c p).length else nI 0
noncomputable def posVal2 (c : Cfg) (p : Nat) (y : Int32) : Int32 := if y = 0 ∨ y = 1 ∨ y = 2 ∨ y = 3 ∨ y = 4 then posVal c p y else if y = 5 then outI (slv c p) else nv (slv c p)
def a_position (A : Ab) (x y z : Int32) (b : Bool) : Ans := if fitsI A.S.cfg x y z = true then (0, (((((162 : Int32) * x) + ((18 : Int32) * y)) + ((2 : Int32) * (z + (1 : Int32)))) + bI b, A)) else (1, (0, A))
noncomputable def a_positionOf (A : Ab) (x y : Int32) : Ans := if y < 0 then (1, (0, A)) else if 6 < y then (1, (0, A)) else if posI A.S.cfg x = false then (2, (0, A)) else (0, (posVal2 A.S.cfg (cl x) y, A))
noncomputable def a_outcomeAgain (A : Ab) (x : Int32) : Ans := if posI A.S.cfg x = false then (1, (0, A)) else (0, (outI (slv A.S.cfg (cl x)), A))
def a_moveOf (A : Ab) (x y : Int32) (b : Bool) : Ans := if posI A.S.cfg x = false then (1, (0, A)) else if y < 0 then (1, (0, A)) else match (mvs A.S.cfg (cl x))[cl y]? with
  | none => (1, (0, A))
  | some k => (0, (if b = true then nI (k % 8) else nI (k / 8), A))
noncomputable def a_best (A : Ab) (x : Int32) : Ans := if posI A.S.cfg x = false then (1, (0, A)) else match bestK A.S.cfg (slv A.S.cfg) (cl x) with
  | none => (1, (0, A))
  | some k => (0, (nI k, A))
def a_after (A : Ab) (x y z : Int32) : Ans := if posI A.S.cfg x = false then (1, (0, A)) else if alI A.S.cfg (cl x) y z = false then (1, (0, A)) else (0, (nI (sh (cl x) (cl y) (cl z)), A))
noncomputable def endP (c : Cfg) : Nat → Nat → Nat
  | 0, p => p
  | n + 1, p => match bestK c (slv c) p with
    | none => p
    | some k => endP c n (tgt p k)
noncomputable def a_ends (A : Ab) (x : Int32) : Ans := if posI A.S.cfg x = false then (1, (0, A)) else if slv A.S.cfg (cl x) = 0 then (1, (0, A)) else (0, (nI (endP A.S.cfg (slv A.S.cfg (cl x) - 1) (cl x)), A))
theorem s_need {u : MU} {c : Cfg} (hc : CfgOk c) (hF : FIs u 2 c) {x : Int32} {Q : MU → Prop} {X : String → MU → Prop} (h1 : posI c x = false → X "java/util/NoSuchElementException" u) (h2 : ∀ p, x = nI p → p < 1296 → posB c p = true → cl x = p → posI c x = true → Q u) : w_X9_needPosition x u Q X := by
  unfold w_X9_needPosition
  refine s_holds hc hF (bI_br2 (fun e => h1 e) (fun e => ?_))
  obtain ⟨p, e2, hp2, hp⟩ := posI_of e
  exact h2 p e2 hp2 hp (by rw [e2]; exact nI_clamp (by omega)) e
theorem L_position {V : Nat → Cfg} {W : Nat} {u : MU} {A : Ab} {o : Nat → Int64} {x y z : Int32} {b : Bool} {Q : Int32 → MU → (Nat → Int64) → Prop} (hC : CI V W u A none 0) (hq : LPost W (a_position A x y z b) Q) : w_L_position x y z (bI b) u o Q := by
  unfold a_position at hq
  unfold w_L_position w_X9_position wb_X9_position_39 w_X9_numberOf
  refine s_fits hC.c hC.F (bI_br2 (fun e => ?_) (fun e => ?_))
  · rw [if_neg (by rw [e]; decide)] at hq
    exact ⟨rfl, LPost.exc (j := 0) hq (W' := W) (by omega) rfl hC⟩
  · rw [if_pos e] at hq
    refine bI_br (fun e2 => ?_) (fun e2 => ?_)
    · rw [e2] at hq; exact LPost.ret hq (W' := W) (by omega) rfl hC
    · rw [e2] at hq; exact LPost.ret hq (W' := W) (by omega) rfl hC
theorem L_positionOf {V : Nat → Cfg} {W : Nat} {u : MU} {A : Ab} {o : Nat → Int64} {x y : Int32} {Q : Int32 → MU → (Nat → Int64) → Prop} (hC : CI V W u A none 0) (hW : W < 2 ^ 20) (hq : LPost W (a_positionOf A x y) Q) : w_L_positionOf x y u o Q := by
  unfold a_positionOf at hq
  unfold w_L_positionOf w_X9_positionOf wb_X9_positionOf_10
  refine ⟨fun h => ?_, fun h => ⟨fun h2 => ?_, fun h2 => ?_⟩⟩
  · rw [if_pos h] at hq
    exact Or.inl ⟨rfl, LPost.exc (j := 0) hq (W' := W) (by omega) rfl hC⟩
  · rw [if_neg h, if_neg (fun z => (fa_of_lt z).2.1 h2)] at hq
    refine s_need hC.c hC.F (fun e => ?_) (fun p e1 hp2 hp e3 e => ?_)
    · rw [if_pos e] at hq
      exact Or.inr ⟨rfl, LPost.exc (j := 1) hq (W' := W) (by omega) rfl hC⟩
    · rw [if_neg (by rw [e]; decide), e3] at hq
      have hc := hC.c
      have hb := slv_lt30 hc
      subst e1
      have ret : ∀ v : Int32, posVal2 A.S.cfg p y = v → ∀ u', CI V W u' A none 0 → Q 0 u' (vp_updL o ((0 : Int32)).toNatClampNeg v.toInt64) := fun v e u' c => LPost.ret hq (W' := W) (by omega) (by rw [e]) c
      unfold posVal2 posVal at ret
      refine ⟨fun e0 => s_fx hp2 ?_, fun e0 => ⟨fun e1 => s_fi hp2 ?_, fun e1 => ⟨fun e2 => s_se hp2 ?_, fun e2 => ⟨fun e4 => s_tu hp2 ?_, fun e4 => ⟨fun e5 => s_count hc hC.F hp ?_, fun e5 => ?_⟩⟩⟩⟩⟩
      · exact ret _ (by rw [if_pos (Or.inl e0), if_pos e0]) u hC
      · exact ret _ (by rw [if_pos (Or.inr (Or.inl e1)), if_neg e0, if_pos e1]) u hC
      · exact ret _ (by rw [if_pos (Or.inr (Or.inr (Or.inl e2))), if_neg e0, if_neg e1, if_pos e2]) u hC
      · exact ret _ (by rw [if_pos (Or.inr (Or.inr (Or.inr (Or.inl e4)))), if_neg e0, if_neg e1, if_neg e2, if_pos e4]) u hC
      · exact ret _ (by rw [if_pos (Or.inr (Or.inr (Or.inr (Or.inr e5)))), if_neg e0, if_neg e1, if_neg e2, if_neg e4, if_pos e5]) u hC
      · have no : ¬ (y = 0 ∨ y = 1 ∨ y = 2 ∨ y = 3 ∨ y = 4) := fun z => by
          rcases z with z | z | z | z | z
          · exact e0 z
          · exact e1 z
          · exact e2 z
          · exact e4 z
          · exact e5 z
        refine s_solve95 hC hW (fun u' c1 c2 c3 => ⟨fun e6 => s_inMoves rfl c2.2.2 hp ?_, fun e6 => s_outcomeOf rfl c2.2.2 hb hp ?_⟩)
        · exact ret _ (by rw [if_neg no, if_neg e6]) u' c1
        · exact ret _ (by rw [if_neg no, if_pos e6]) u' c1
  · rw [if_neg h, if_pos (fa_of_nle h2)] at hq
    exact Or.inl ⟨rfl, LPost.exc (j := 0) hq (W' := W) (by omega) rfl hC⟩
theorem L_outcomeAgain {V : Nat → Cfg} {W : Nat} {u : MU} {A : Ab} {o : Nat → Int64} {x : Int32} {Q : Int32 → MU → (Nat → Int64) → Prop} (hC : CI V W u A none 0) (hW : W < 2 ^ 20) (hq : LPost W (a_outcomeAgain A x) Q) : w_L_outcomeAgain x u o Q := by
  unfold a_outcomeAgain at hq
  unfold w_L_outcomeAgain w_X9_outcomeAgain
  refine s_need hC.c hC.F (fun e => ?_) (fun p e1 hp2 hp e3 e => ?_)
  · rw [if_pos e] at hq
    exact ⟨rfl, LPost.exc (j := 0) hq (W' := W) (by omega) rfl hC⟩
  · rw [if_neg (by rw [e]; decide), e3] at hq
    subst e1
    refine s_second hC hW (fun u' c1 c2 => ?_)
    unfold w_X5_outcomeOf
    refine s_at (N := 1296) rfl hp2 (by decide) ?_
    rw [c2 p hp, oc_I]
    exact LPost.ret hq (W' := W) (by omega) rfl c1
theorem L_best {V : Nat → Cfg} {W : Nat} {u : MU} {A : Ab} {o : Nat → Int64} {x : Int32} {Q : Int32 → MU → (Nat → Int64) → Prop} (hC : CI V W u A none 0) (hW : W < 2 ^ 20) (hq : LPost W (a_best A x) Q) : w_L_best x u o Q := by
  unfold a_best at hq
  unfold w_L_best w_X9_best
  refine s_need hC.c hC.F (fun e => ?_) (fun p e1 hp2 hp e3 e => ?_)
  · rw [if_pos e] at hq
    exact ⟨rfl, LPost.exc (j := 0) hq (W' := W) (by omega) rfl hC⟩
  · rw [if_neg (by rw [e]; decide), e3] at hq
    subst e1
    refine s_solve95 hC hW (fun u' c1 c2 c3 => s_bestMove hC.c c1.F rfl c2.2.2 (slv_lt30 hC.c) hp ?_)
    cases hb : bestK A.S.cfg (slv A.S.cfg) p with
    | none =>
      rw [hb] at hq
      exact ⟨fun z => absurd rfl z, fun _ => ⟨rfl, LPost.exc (j := 0) hq (W' := W) (by omega) rfl c1⟩⟩
    | some k =>
      rw [hb] at hq
      have hk := (mvs_mem.mp (best_mem hb)).1
      exact ⟨fun _ => LPost.ret hq (W' := W) (by omega) rfl c1, fun z => absurd z (opAns (by omega))⟩
theorem L_after {V : Nat → Cfg} {W : Nat} {u : MU} {A : Ab} {o : Nat → Int64} {x y z : Int32} {Q : Int32 → MU → (Nat → Int64) → Prop} (hC : CI V W u A none 0) (hq : LPost W (a_after A x y z) Q) : w_L_after x y z u o Q := by
  unfold a_after at hq
  unfold w_L_after w_X9_after
  refine s_need hC.c hC.F (fun e => ?_) (fun p e1 hp2 hp e3 e => ?_)
  · rw [if_pos e] at hq
    exact ⟨rfl, LPost.exc (j := 0) hq (W' := W) (by omega) rfl hC⟩
  · rw [if_neg (by rw [e]; decide), e3] at hq
    subst e1
    refine s_allows hC.c hC.F hp (bI_br2 (fun e2 => ?_) (fun e2 => ?_))
    · rw [if_pos e2] at hq
      exact ⟨rfl, LPost.exc (j := 0) hq (W' := W) (by omega) rfl hC⟩
    · rw [if_neg (by rw [e2]; decide)] at hq
      have al := e2
      unfold alI at al
      rw [Bool.and_eq_true, Bool.and_eq_true] at al
      obtain ⟨hy, hyn⟩ := has_of hC.c al.1.1
      obtain ⟨hz, hzn⟩ := has_of hC.c al.1.2
      have hn := hC.c.hn
      have main : w_X9_shifted (nI p) (nI (cl y)) (nI (cl z)) (fun r => Q 0 u (vp_updL o ((0 : Int32)).toNatClampNeg r.toInt64)) := s_shifted hp2 (by omega) (by omega) (LPost.ret hq (W' := W) (by omega) rfl hC)
      rw [← hy, ← hz] at main
      exact main
theorem L_moveOf {V : Nat → Cfg} {W : Nat} {u : MU} {A : Ab} {o : Nat → Int64} {x y : Int32} {b : Bool} {Q : Int32 → MU → (Nat → Int64) → Prop} (hC : CI V W u A none 0) (hq : LPost W (a_moveOf A x y b) Q) : w_L_moveOf x y (bI b) u o Q := by
  unfold a_moveOf at hq
  unfold w_L_moveOf w_X9_moveOf wb_X9_moveOf_31
  refine s_need hC.c hC.F (fun e => ?_) (fun p e1 hp2 hp e3 e => ?_)
  · rw [if_pos e] at hq
    exact ⟨rfl, LPost.exc (j := 0) hq (W' := W) (by omega) rfl hC⟩
  · rw [if_neg (by rw [e]; decide), e3] at hq
    subst e1
    have hm := mvs_le (c := A.S.cfg) (p := p)
    refine s_movesOf hC.c hC.F hp ⟨fun h => ?_, fun h => s_bitCountL (Mv_lt _ _) ?_⟩
    · rw [if_pos h] at hq
      exact ⟨rfl, LPost.exc (j := 0) hq (W' := W) (by omega) rfl hC⟩
    · rw [if_neg h] at hq
      rw [show ctb (Mv A.S.cfg p) 64 = (mvs A.S.cfg p).length from (bl_ct (Mv A.S.cfg p)).symm]
      obtain ⟨m, hm31, rfl⟩ := nI_of h
      rw [show cl (nI m) = m from nI_clamp hm31] at hq
      refine ⟨fun z => ⟨m + 1, ?_⟩, fun z => ?_⟩
      · have hml : m < (mvs A.S.cfg p).length := (nI_ltI hm31 (by omega)).mp z
        rw [List.getElem?_eq_getElem hml] at hq
        have loop : ∀ (n i x : Nat), i + n = m → x < 2 ^ 64 → bl x 64 0 = (mvs A.S.cfg p).drop i → wl_X9_moveOf_44 (fun r u1 => Q 0 u1 (vp_updL o ((0 : Int32)).toNatClampNeg r.toInt64)) (fun E u1 => (E = "java/util/NoSuchElementException" ∧ Q (1 : Int32) u1 o)) (n + 1) (nI m) (bI b) (lN x) (nI i) u := by
          intro n
          induction n with
          | zero =>
            intro i x hi hx hl
            rw [Nat.add_zero] at hi
            subst hi
            rw [List.drop_eq_getElem_cons hml] at hl
            obtain ⟨b1, b2, b3, b4, b5⟩ := bl_step hx hl
            rw [wl_X9_moveOf_44]
            refine ⟨fun _ => s_firstMove hx b3 b4 (bI_br (fun e2 => s_from b1 ?_) (fun e2 => s_to b1 ?_)), fun z => absurd (nI_le (Nat.le_refl _) hm31) z⟩
            · rw [e2] at hq; exact LPost.ret hq (W' := W) (by omega) rfl hC
            · rw [e2] at hq; exact LPost.ret hq (W' := W) (by omega) rfl hC
          | succ n ih =>
            intro i x hi hx hl
            rw [List.drop_eq_getElem_cons (show i < (mvs A.S.cfg p).length by omega)] at hl
            obtain ⟨b1, b2, b3, b4, b5⟩ := bl_step hx hl
            rw [wl_X9_moveOf_44]
            refine ⟨fun z => absurd z (nI_ge (by omega) hm31), fun _ => s_withoutFirst b2 (fun x6 hx6 => ?_)⟩
            rw [hx6, nI_1]
            exact ih (i + 1) (rest1 x) (by omega) (rest1_lt hx) b5
        exact loop m 0 (Mv A.S.cfg p) (by omega) (Mv_lt _ _) rfl
      · have hml : ¬ m < (mvs A.S.cfg p).length := fun z2 => z (nI_lt z2 (by omega))
        rw [List.getElem?_eq_none (by omega)] at hq
        exact ⟨rfl, LPost.exc (j := 0) hq (W' := W) (by omega) rfl hC⟩
theorem L_ends {V : Nat → Cfg} {W : Nat} {u : MU} {A : Ab} {o : Nat → Int64} {x : Int32} {Q : Int32 → MU → (Nat → Int64) → Prop} (hC : CI V W u A none 0) (hW : W < 2 ^ 20) (hq : LPost W (a_ends A x) Q) : w_L_ends x u o Q := by
  unfold a_ends at hq
  unfold w_L_ends w_X9_ends
  refine s_need hC.c hC.F (fun e => ?_) (fun p e1 hp2 hp e3 e => ?_)
  · rw [if_pos e] at hq
    exact ⟨rfl, LPost.exc (j := 0) hq (W' := W) (by omega) rfl hC⟩
  · rw [if_neg (by rw [e]; decide), e3] at hq
    subst e1
    have hc := hC.c
    have hb := slv_lt hc p
    refine s_solve95 hC hW (fun u' c1 c2 c3 => s_inMoves rfl c2.2.2 hp ?_)
    rcases Nat.eq_zero_or_pos (slv A.S.cfg p) with h0 | h0
    · rw [if_pos h0] at hq
      rw [h0, nv_0]
      exact ⟨fun z => absurd z (by decide +kernel), fun _ => ⟨rfl, LPost.exc (j := 0) hq (W' := W) (by omega) rfl c1⟩⟩
    · rw [if_neg (by omega)] at hq
      obtain ⟨m, hm⟩ : ∃ m, slv A.S.cfg p = m + 1 := ⟨slv A.S.cfg p - 1, by omega⟩
      rw [hm, Nat.add_sub_cancel] at hq
      rw [hm, nv_s]
      have loop : ∀ (n i q : Nat), i + n = m → posB A.S.cfg q = true → endP A.S.cfg n q = endP A.S.cfg m p → wl_X9_ends_47 (fun r u1 => Q 0 u1 (vp_updL o ((0 : Int32)).toNatClampNeg r.toInt64)) (fun E u1 => (E = "java/util/NoSuchElementException" ∧ Q (1 : Int32) u1 o)) (n + 1) (nI m) (nI q) (nI i) u' := by
        intro n
        induction n with
        | zero =>
          intro i q hi hqp he
          rw [wl_X9_ends_47]
          refine ⟨fun _ => ?_, fun z => absurd (nI_le (by omega) (by omega)) z⟩
          rw [← he] at hq
          exact LPost.ret hq (W' := W) (by omega) rfl c1
        | succ n ih =>
          intro i q hi hqp he
          rw [wl_X9_ends_47]
          refine ⟨fun z => absurd z (nI_ge (by omega) (by omega)), fun _ => s_bestMove hc c1.F rfl c2.2.2 (slv_lt30 hc) hqp ?_⟩
          rw [endP] at he
          cases hb : bestK A.S.cfg (slv A.S.cfg) q with
          | none =>
            rw [hb] at he
            refine ⟨fun z => absurd rfl z, fun _ => ?_⟩
            rw [← he] at hq
            exact LPost.ret hq (W' := W) (by omega) rfl c1
          | some k =>
            rw [hb] at he
            have hk := mvs_mem.mp (best_mem hb)
            have hpos := (mv_wb hc hqp hk.2).1
            refine ⟨fun _ => s_from hk.1 (s_to hk.1 (s_shifted (posB_spec.mp hqp).1 (by omega) (by omega) (fun x4 hx4 => ?_))), fun z => absurd z (opAns (show k < 2 ^ 31 by omega))⟩
            rw [hx4, nI_1]
            exact ih (i + 1) _ (by omega) hpos he
      exact ⟨fun _ => ⟨m + 1, loop m 0 p (by omega) hp rfl⟩, fun z => absurd (nI_pos' (by omega)) z⟩
