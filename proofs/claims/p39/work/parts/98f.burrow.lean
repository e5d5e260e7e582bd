/-! the class: the best burrow, burrows, paths, now -/
/-- the position with the fox on f -/
def foxAt (p f : Nat) : Nat := pnum f (fi p) (se p) (tu p)
noncomputable def bbTake (c : Cfg) (t : Nat) (B : Option Nat) : Option Nat := match B with
  | none => some t
  | some b => if slv c t < slv c b then some t else some b
noncomputable def bbStep (c : Cfg) (p : Nat) (B : Option Nat) (f : Nat) : Option Nat :=
  if (posB c (foxAt p f) && foxW (foxAt p f) (slv c (foxAt p f))) = true then bbTake c (foxAt p f) B else B
noncomputable def bbF (c : Cfg) (p : Nat) : Nat → Nat → Option Nat → Option Nat
  | 0, _, B => B
  | n + 1, f, B => bbF c p n (f + 1) (bbStep c p B f)
noncomputable def a_bestBurrow (A : Ab) (x : Int32) : Ans := if posI A.S.cfg x = false then (1, (0, A)) else match bbF A.S.cfg (cl x) A.S.n 0 none with
  | none => (1, (0, A))
  | some t => (0, (nI (fx t), A))
theorem foxAt_fx {p f : Nat} (h : p < 1296) : fx (foxAt p f) = f ∧ foxAt p f = 162 * f + p % 162 := by
  have h1 := fi_lt p
  have h2 := se_lt p
  have h3 := tu_lt p
  refine ⟨pnum_fx h1 h2 h3, ?_⟩
  unfold foxAt pnum fi se tu
  omega
theorem i_foxAt {p f : Nat} (hp : p < 1296) : nI p + 162 * (nI f - nI (fx p)) = nI (foxAt p f) := by
  rw [(foxAt_fx hp).2]
  have e : nI p = 162 * nI (fx p) + nI (p % 162) := by
    rw [show (162 : Int32) = nI 162 from rfl, pk_mul, nI_add]
    congr 1
    unfold fx
    omega
  have e2 : nI (162 * f + p % 162) = 162 * nI f + nI (p % 162) := by rw [show (162 : Int32) = nI 162 from rfl, pk_mul, nI_add]
  rw [e, e2, Int32.mul_sub]
  generalize (162 : Int32) * nI (fx p) = a
  generalize (162 : Int32) * nI f = b
  generalize nI (p % 162) = d
  rw [Int32.add_comm a d, Int32.add_assoc, Int32.add_comm a, Int32.sub_add_cancel, Int32.add_comm]
noncomputable def bbM (c : Cfg) (B : Option Nat) : Int32 := match B with
  | none => 0
  | some p => nv (slv c p)
noncomputable def bbFo (B : Option Nat) : Int32 := match B with
  | none => -1
  | some p => nI (fx p)
theorem L_bestBurrow {V : Nat → Cfg} {W : Nat} {u : MU} {A : Ab} {o : Nat → Int64} {x : Int32} {Q : Int32 → MU → (Nat → Int64) → Prop} (hC : CI V W u A none 0) (hW : W < 2 ^ 20) (hq : LPost W (a_bestBurrow A x) Q) : w_L_bestBurrow x u o Q := by
  have hc := hC.c
  have hn : A.S.n ≤ 8 := hC.S.1
  unfold a_bestBurrow at hq
  unfold w_L_bestBurrow w_X9_bestBurrow
  refine s_need hC.c hC.F (fun e => ?_) (fun p e1 hp2 hp e3 e => ?_)
  · rw [if_pos e] at hq
    exact ⟨rfl, LPost.exc (j := 0) hq (W' := W) (by omega) rfl hC⟩
  · rw [if_neg (by rw [e]; decide), e3] at hq
    subst e1
    refine s_solve95 hC hW (fun u' c1 c2 c3 => ⟨A.S.n + 1, ?_⟩)
    have hb30 := slv_lt30 hc
    have loop : ∀ (n f : Nat) (B : Option Nat), f + n = A.S.n → (∀ t, B = some t → fx t < 8) → bbF A.S.cfg p n f B = bbF A.S.cfg p A.S.n 0 none → wl_X9_bestBurrow_26 (fun r u1 => Q 0 u1 (vp_updL o ((0 : Int32)).toNatClampNeg r.toInt64)) (fun E u1 => (E = "java/util/NoSuchElementException" ∧ Q (1 : Int32) u1 o)) (n + 1) (nI p) (bbFo B) (bbM A.S.cfg B) (nI f) u' := by
      intro n
      induction n with
      | zero =>
        intro f B hf hB he
        rw [bbF] at he
        rw [← he] at hq
        rw [wl_X9_bestBurrow_26, show u' 2 0 = nI A.S.n from c1.F.1]
        refine ⟨fun _ => ?_, fun z => absurd (nI_le (by omega) (by omega)) z⟩
        cases B with
        | none => exact ⟨fun z => absurd rfl z, fun _ => ⟨rfl, LPost.exc (j := 0) hq (W' := W) (by omega) rfl c1⟩⟩
        | some t =>
          have := hB t rfl
          exact ⟨fun _ => LPost.ret hq (W' := W) (by omega) rfl c1, fun z => absurd z (opAns (show fx t < 2 ^ 31 by omega))⟩
      | succ n ih =>
        intro f B hf hB he
        rw [bbF] at he
        obtain ⟨fx1, fx2⟩ := foxAt_fx (f := f) hp2
        have IH := fun (B' : Option Nat) (e : bbStep A.S.cfg p B f = B') (hB' : ∀ t, B' = some t → fx t < 8) => ih (f + 1) B' (by omega) hB' (by rw [← e]; exact he)
        rw [wl_X9_bestBurrow_26, show u' 2 0 = nI A.S.n from c1.F.1]
        refine ⟨fun z => absurd z (nI_ge (by omega) (by omega)), fun _ => s_fx hp2 (fun x5 hx5 => ?_)⟩
        rw [hx5, i_foxAt hp2]
        have ht31 : foxAt p f < 2 ^ 31 := by omega
        have no : bbStep A.S.cfg p B f = B → wb_X9_bestBurrow_117 (fun x1' x2' x3' x4' u' => wl_X9_bestBurrow_26 (fun r u1 => Q 0 u1 (vp_updL o ((0 : Int32)).toNatClampNeg r.toInt64)) (fun E u1 => (E = "java/util/NoSuchElementException" ∧ Q (1 : Int32) u1 o)) (n + 1) x1' x2' x3' x4' u') (fun r u1 => Q 0 u1 (vp_updL o ((0 : Int32)).toNatClampNeg r.toInt64)) (fun E u1 => (E = "java/util/NoSuchElementException" ∧ Q (1 : Int32) u1 o)) (nI p) (bbFo B) (bbM A.S.cfg B) (nI f) u' := fun e x4 hx4 => by
          rw [hx4, nI_1]
          exact IH B e hB
        refine s_holds hc c1.F ?_
        rw [posI_nI ht31]
        refine bI_br (fun e2 => no ?_) (fun e2 => s_isFoxWinning rfl c2.2.2 hb30 e2 (bI_br2 (fun e4 => no ?_) (fun e4 => ?_)))
        · unfold bbStep; rw [e2, Bool.false_and, if_neg Bool.false_ne_true]
        · unfold bbStep; rw [e4, Bool.and_false, if_neg Bool.false_ne_true]
        · have take : bbStep A.S.cfg p B f = some (foxAt p f) → wb_X9_bestBurrow_104 (fun x1' x2' x3' x4' u' => wl_X9_bestBurrow_26 (fun r u1 => Q 0 u1 (vp_updL o ((0 : Int32)).toNatClampNeg r.toInt64)) (fun E u1 => (E = "java/util/NoSuchElementException" ∧ Q (1 : Int32) u1 o)) (n + 1) x1' x2' x3' x4' u') (fun r u1 => Q 0 u1 (vp_updL o ((0 : Int32)).toNatClampNeg r.toInt64)) (fun E u1 => (E = "java/util/NoSuchElementException" ∧ Q (1 : Int32) u1 o)) (nI p) (nI f) (nI (foxAt p f)) u' := fun e => by
            unfold wb_X9_bestBurrow_104
            refine s_inMoves rfl c2.2.2 e2 (fun x4 hx4 => ?_)
            rw [hx4, nI_1]
            have := IH (some (foxAt p f)) e (fun t ht => by cases ht; rw [fx1]; omega)
            unfold bbFo bbM at this
            simp only [fx1] at this
            exact this
          have st : bbStep A.S.cfg p B f = bbTake A.S.cfg (foxAt p f) B := by
            unfold bbStep; rw [e2, e4, Bool.and_self, if_pos rfl]
          cases B with
          | none => exact ⟨fun _ => take st, fun z => absurd rfl z⟩
          | some b =>
            have hb8 := hB b rfl
            refine ⟨fun z => absurd z (opAns (show fx b < 2 ^ 31 by omega)), fun _ => s_inMoves rfl c2.2.2 e2 ⟨fun z => no ?_, fun z => take ?_⟩⟩
            · have := (nv_le (hb30 b) (hb30 (foxAt p f))).mp z
              rw [st]
              show (if slv A.S.cfg (foxAt p f) < slv A.S.cfg b then some (foxAt p f) else some b) = some b
              rw [if_neg (by omega)]
            · have : ¬ slv A.S.cfg b ≤ slv A.S.cfg (foxAt p f) := fun z2 => z ((nv_le (hb30 b) (hb30 (foxAt p f))).mpr z2)
              rw [st]
              show (if slv A.S.cfg (foxAt p f) < slv A.S.cfg b then some (foxAt p f) else some b) = some (foxAt p f)
              rw [if_pos (by omega)]
    exact loop A.S.n 0 none (by omega) (fun t h => by cases h) rfl
/-- burrows with greater numbers among the bits m -/
def abv (a m : Nat) : Nat := bits (fun i => m.testBit i && decide (a < i)) 8
noncomputable def pFox (c : Cfg) (a p : Nat) : Bool := decide (fx p = a) && foxW p (slv c p)
noncomputable def burVal (A : Ab) (a : Nat) (y : Int32) : Int32 := if y = 0 then nI (pcN (A.S.cfg.near a)) else if y = 1 then nI (pcN (abv a (A.S.cfg.near a))) else if y = 2 then bI (A.S.traps.testBit a) else nI ((lp A.S.cfg).countP (pFox A.S.cfg a))
noncomputable def a_burrowOf (A : Ab) (x y : Int32) : Ans := if hasI A.S.cfg x = false then (1, (0, A)) else if y < 0 then (2, (0, A)) else if 3 < y then (2, (0, A)) else (0, (burVal A (cl x) y, A))
theorem L_burrowOf {V : Nat → Cfg} {W : Nat} {u : MU} {A : Ab} {o : Nat → Int64} {x y : Int32} {Q : Int32 → MU → (Nat → Int64) → Prop} (hC : CI V W u A none 0) (hW : W < 2 ^ 20) (hq : LPost W (a_burrowOf A x y) Q) : w_L_burrowOf x y u o Q := by
  have hc := hC.c
  have hn := hc.hn
  have hF := hC.F
  unfold a_burrowOf at hq
  unfold w_L_burrowOf w_X9_burrowOf wb_X9_burrowOf_33
  refine s_has hF (bI_br2 (fun e1 => ?_) (fun e1 => ?_))
  · rw [if_pos e1] at hq
    exact Or.inl ⟨rfl, LPost.exc (j := 0) hq (W' := W) (by omega) rfl hC⟩
  · rw [if_neg (by rw [e1]; decide)] at hq
    refine ⟨fun h => ?_, fun h => ⟨fun h2 => ?_, fun h2 => ?_⟩⟩
    · rw [if_pos h] at hq
      exact Or.inr ⟨rfl, LPost.exc (j := 1) hq (W' := W) (by omega) rfl hC⟩
    · rw [if_neg h, if_neg (fun z => (fa_of_lt z).2.1 h2)] at hq
      obtain ⟨hx, hxn⟩ := has_of hc e1
      have ret : ∀ v : Int32, burVal A (cl x) y = v → ∀ u', CI V W u' A none 0 → Q 0 u' (vp_updL o ((0 : Int32)).toNatClampNeg v.toInt64) := fun v e u' c => LPost.ret hq (W' := W) (by omega) (by rw [e]) c
      unfold burVal at ret
      have a5 : ∀ {P : Int32 → Prop}, P (nI (A.S.cfg.near (cl x))) → w_X9_at 5 u x P := fun {P} hP => by
        have := s_at (u := u) (k := 5) (i := cl x) (N := 8) rfl (by omega) (by decide) (Q := P) (by rw [show u 5 (cl x) = nI (A.S.cfg.near (cl x)) from hF.2.2.2 _ (by omega)]; exact hP)
        rw [← hx] at this
        exact this
      refine ⟨fun e0 => a5 (s_bitCountI (hc.hb _) ?_), fun e0 => ⟨fun e2 => a5 ?_, fun e2 => ⟨fun e3 => ?_, fun e3 => ?_⟩⟩⟩
      · exact ret _ (by rw [if_pos e0]) u hC
      · show w_X9_above x (fun r_15 => w_J6_bitCount_0f7a4 (nI (A.S.cfg.near (cl x)) &&& r_15) (fun r => Q 0 u (vp_updL o ((0 : Int32)).toNatClampNeg r.toInt64)))
        show w_J6_bitCount_0f7a4 (nI (A.S.cfg.near (cl x)) &&& ((-2 : Int32) <<< (x &&& 31))) (fun r => Q 0 u (vp_updL o ((0 : Int32)).toNatClampNeg r.toInt64))
        rw [nI_bits (hc.hb _)]
        have eb : bits (fun i => (A.S.cfg.near (cl x)).testBit i && bt ((-2 : Int32) <<< (x &&& 31)) i) 8 = abv (cl x) (A.S.cfg.near (cl x)) := bits_cong (fun i hi => by
          have := b_above (cl x) i (by omega) hi
          rw [← hx] at this
          rw [this])
        rw [eb]
        exact s_bitCountI (show abv (cl x) (A.S.cfg.near (cl x)) < 256 from bits_lt _ 8) (ret _ (by rw [if_neg e0, if_pos e2]) u hC)
      · have step : ∀ {P : Int32 → Prop}, P (bI (A.S.traps.testBit (cl x))) → w_X1_isTrap 2 u x P := fun {P} hP => by
          have := s_isTrap hF (b := cl x) (by omega) hP
          rw [← hx] at this
          exact this
        refine step (bI_br (fun e4 => ?_) (fun e4 => ?_))
        · exact ret _ (by rw [if_neg e0, if_neg e2, if_pos e3, e4]; rfl) u hC
        · exact ret _ (by rw [if_neg e0, if_neg e2, if_pos e3, e4]; rfl) u hC
      · have ret' := ret _ (by rw [if_neg e0, if_neg e2, if_neg e3])
        unfold w_X9_winsOfFoxOn
        have hl := lp_len hc
        refine s_solve95 hC hW (fun u' c1 c2 c3 => ⟨(lp A.S.cfg).length + 1, ?_⟩)
        have loop : ∀ (R D : List Nat), lp A.S.cfg = D ++ R → wl_X9_winsOfFoxOn_18 (fun r u1 => Q 0 u1 (vp_updL o ((0 : Int32)).toNatClampNeg r.toInt64)) (R.length + 1) x (nI (D.countP (pFox A.S.cfg (cl x)))) (nI D.length) u' := by
          intro R
          induction R with
          | nil =>
            intro D hD
            rw [List.append_nil] at hD
            subst hD
            rw [List.length_nil, wl_X9_winsOfFoxOn_18, c2.1]
            exact ⟨fun _ => ret' u' c1, fun z => absurd (nI_le (Nat.le_refl _) (by omega)) z⟩
          | cons p R ih =>
            intro D hD
            obtain ⟨g1, g2, g3, g4⟩ := getD hD
            have hp := (lp_mem hc).mp g3
            have hp2 := (posB_spec.mp hp).1
            have hfx := fx_lt hp2
            have IH := ih (D ++ [p]) g4
            rw [cp_app, List.length_append, List.length_singleton] at IH
            have ix : nI (fx p) = x ↔ fx p = cl x := by
              conv => lhs; rw [hx]
              exact nI_eq (by omega) (by omega)
            rw [List.length_cons, wl_X9_winsOfFoxOn_18, c2.1]
            have no : pFox A.S.cfg (cl x) p = false → wb_X9_winsOfFoxOn_63 (fun x1' x2' x3' u' => wl_X9_winsOfFoxOn_18 (fun r u1 => Q 0 u1 (vp_updL o ((0 : Int32)).toNatClampNeg r.toInt64)) (R.length + 1) x1' x2' x3' u') (fun r u1 => Q 0 u1 (vp_updL o ((0 : Int32)).toNatClampNeg r.toInt64)) x (nI (D.countP (pFox A.S.cfg (cl x)))) (nI D.length) u' := fun e x3 hx3 => by
              rw [hx3, nI_1]
              rw [e, if_neg Bool.false_ne_true, Nat.add_zero] at IH
              exact IH
            refine ⟨fun z => absurd z (nI_ge (by omega) (by omega)), fun _ => s_posAt hc c2 g1 (s_fx hp2 ⟨fun z => no ?_, fun z => s_isFoxWinning rfl c2.2.2 (slv_lt30 hc) hp (bI_br (fun e5 => no ?_) (fun e5 x2 hx2 x3 hx3 => ?_))⟩)⟩
            · unfold pFox; rw [decide_eq_false (fun e => z (ix.mpr e))]; rfl
            · unfold pFox; rw [e5, Bool.and_false]
            · rw [hx3, hx2, nI_1, nI_1]
              rw [show pFox A.S.cfg (cl x) p = true by unfold pFox; rw [decide_eq_true (ix.mp z), e5]; rfl, if_pos rfl] at IH
              exact IH
        exact loop (lp A.S.cfg) [] rfl
    · rw [if_neg h, if_pos (fa_of_nle h2)] at hq
      exact Or.inr ⟨rfl, LPost.exc (j := 1) hq (W' := W) (by omega) rfl hC⟩
def a_pathOf (A : Ab) (x : Int32) (b : Bool) : Ans := if x < 0 then (1, (0, A)) else match A.S.ps[cl x]? with
  | none => (1, (0, A))
  | some q => (0, (if b = true then nI q.2 else nI q.1, A))
def a_now (A : Ab) : Ans := match A.S.game with
  | none => (1, (0, A))
  | some (_, p) => (0, (nI p, A))
theorem L_pathOf {V : Nat → Cfg} {W : Nat} {u : MU} {A : Ab} {o : Nat → Int64} {x : Int32} {b : Bool} {Q : Int32 → MU → (Nat → Int64) → Prop} (hC : CI V W u A none 0) (hq : LPost W (a_pathOf A x b) Q) : w_L_pathOf x (bI b) u o Q := by
  have hl := hC.S.2.2.2.1.1
  unfold a_pathOf at hq
  unfold w_L_pathOf w_X9_pathOf wb_X9_pathOf_18
  rw [show u 2 1 = nI A.S.ps.length from hC.B.2.1]
  refine ⟨fun h => ?_, fun h => ?_⟩
  · rw [if_pos h] at hq
    exact ⟨rfl, LPost.exc (j := 0) hq (W' := W) (by omega) rfl hC⟩
  · rw [if_neg h] at hq
    obtain ⟨m, hm31, rfl⟩ := nI_of h
    rw [show cl (nI m) = m from nI_clamp hm31] at hq
    refine ⟨fun z => ?_, fun z => ?_⟩
    · have hml : m < A.S.ps.length := (nI_ltI hm31 (by omega)).mp z
      rw [List.getElem?_eq_getElem hml] at hq
      obtain ⟨r1, r2⟩ := hC.B.2.2.1 m _ (List.getElem?_eq_getElem hml)
      refine bI_br (fun e => s_at (N := 16) rfl (by omega) (by decide) ?_) (fun e => s_at (N := 16) rfl (by omega) (by decide) ?_)
      · rw [show u 3 m = _ from r1]
        rw [e] at hq; exact LPost.ret hq (W' := W) (by omega) rfl hC
      · rw [show u 4 m = _ from r2]
        rw [e] at hq; exact LPost.ret hq (W' := W) (by omega) rfl hC
    · have hml : ¬ m < A.S.ps.length := fun z2 => z (nI_lt z2 (by omega))
      rw [List.getElem?_eq_none (by omega)] at hq
      exact ⟨rfl, LPost.exc (j := 0) hq (W' := W) (by omega) rfl hC⟩
theorem L_now {V : Nat → Cfg} {W : Nat} {u : MU} {A : Ab} {o : Nat → Int64} {Q : Int32 → MU → (Nat → Int64) → Prop} (hC : CI V W u A none 0) (hq : LPost W (a_now A) Q) : w_L_now u o Q := by
  have hG := hC.B.2.2.2.2
  unfold a_now at hq
  unfold w_L_now w_X9_now
  cases hg : A.S.game with
  | none =>
    rw [hg] at hq hG
    exact ⟨fun z => absurd hG z, fun _ => ⟨rfl, LPost.exc (j := 0) hq (W' := W) (by omega) rfl hC⟩⟩
  | some z =>
    obtain ⟨h, p⟩ := z
    rw [hg] at hq hG
    obtain ⟨k1, k2, k3⟩ := hC.S.2.2.2.2 h p hg
    have g1 : u 6 0 = 1 := hG.1
    exact ⟨fun _ => s_last hG k1 (LPost.ret hq (W' := W) (by omega) rfl hC), fun z => absurd (g1.symm.trans z) (by decide)⟩
