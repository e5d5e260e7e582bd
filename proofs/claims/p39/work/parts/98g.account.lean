/-! the class: means, shares, accounts -/
noncomputable def sumM (c : Cfg) : List Nat → Nat
  | [] => 0
  | p :: t => (slv c p - 1) + sumM c t
theorem sumM_app {c : Cfg} {p : Nat} : ∀ D : List Nat, sumM c (D ++ [p]) = sumM c D + (slv c p - 1)
  | [] => by show (slv c p - 1) + 0 = 0 + _; omega
  | q :: t => by
    show (slv c q - 1) + sumM c (t ++ [p]) = (slv c q - 1) + sumM c t + _
    rw [sumM_app t]; omega
noncomputable def pTold (c : Cfg) (p : Nat) : Bool := decide (slv c p ≠ 0)
abbrev AnsD : Type := Nat × (UInt64 × Ab)
def DPost (W : Nat) (k : AnsD) (Q : Int32 → MU → (Nat → UInt64) → Prop) : Prop := ∀ V' W' u' o', W' ≤ W + 40 → CI V' W' u' k.2.2 none 0 → (k.1 = 0 → o' 0 = k.2.1) → Q (nI k.1) u' o'
theorem DPost.ret {V : Nat → Cfg} {W W' : Nat} {u : MU} {o : Nat → UInt64} {x : UInt64} {A : Ab} {k : AnsD} {Q : Int32 → MU → (Nat → UInt64) → Prop} (hq : DPost W k Q) (hW : W' ≤ W + 40) (hk : k = (0, (x, A))) (hC : CI V W' u A none 0) : Q 0 u (vf_upd o ((0 : Int32)).toNatClampNeg x) := by
  subst hk
  exact hq V W' u _ hW hC (fun _ => by show vf_upd o 0 x 0 = x; unfold vf_upd; rw [if_pos rfl])
theorem DPost.exc {V : Nat → Cfg} {W W' : Nat} {u : MU} {o : Nat → UInt64} {x : UInt64} {A : Ab} {k : AnsD} {Q : Int32 → MU → (Nat → UInt64) → Prop} (hq : DPost W k Q) (hW : W' ≤ W + 40) (hk : k = (1, (x, A))) (hC : CI V W' u A none 0) : Q 1 u o := by
  subst hk
  exact hq V W' u o hW hC (fun z => by omega)
noncomputable def meanV (c : Cfg) : UInt64 := FP.ddiv (FP.i2d (nI (sumM c (lp c)))) (FP.i2d (nI ((lp c).countP (pTold c))))
noncomputable def a_mean (A : Ab) : AnsD := if (lp A.S.cfg).countP (pTold A.S.cfg) = 0 then (1, (0, A)) else (0, (meanV A.S.cfg, A))
theorem L_meanMoves {V : Nat → Cfg} {W : Nat} {u : MU} {A : Ab} {o : Nat → UInt64} {Q : Int32 → MU → (Nat → UInt64) → Prop} (hC : CI V W u A none 0) (hW : W < 2 ^ 20) (hq : DPost W (a_mean A) Q) : w_L_meanMoves u o Q := by
  have hc := hC.c
  have hl := lp_len hc
  have hb30 := slv_lt30 hc
  unfold a_mean at hq
  unfold w_L_meanMoves w_X9_meanMoves
  refine s_solve95 hC hW (fun u' c1 c2 c3 => ⟨(lp A.S.cfg).length + 1, ?_⟩)
  have loop : ∀ (R D : List Nat), lp A.S.cfg = D ++ R → wl_X9_meanMoves_20 (fun r u1 => Q 0 u1 (vf_upd o ((0 : Int32)).toNatClampNeg r)) (fun E u1 => (E = "java/lang/ArithmeticException" ∧ Q (1 : Int32) u1 o)) (R.length + 1) (nI (sumM A.S.cfg D)) (nI (D.countP (pTold A.S.cfg))) (nI D.length) u' := by
    intro R
    induction R with
    | nil =>
      intro D hD
      rw [List.append_nil] at hD
      subst hD
      have hcl : (lp A.S.cfg).countP (pTold A.S.cfg) ≤ (lp A.S.cfg).length := List.countP_le_length
      rw [List.length_nil, wl_X9_meanMoves_20, c2.1]
      refine ⟨fun _ => ⟨fun z => ?_, fun z => ?_⟩, fun z => absurd (nI_le (Nat.le_refl _) (by omega)) z⟩
      · have h0 : ¬ (lp A.S.cfg).countP (pTold A.S.cfg) = 0 := fun e => z (by rw [e]; rfl)
        rw [if_neg h0] at hq
        exact ⟨ddiv_n (by omega) (by omega), DPost.ret hq (W' := W) (by omega) rfl c1⟩
      · have h0 : (lp A.S.cfg).countP (pTold A.S.cfg) = 0 := (nI_eq (b := 0) (by omega) (by decide)).mp z
        rw [if_pos h0] at hq
        exact ⟨rfl, DPost.exc hq (W' := W) (by omega) rfl c1⟩
    | cons p R ih =>
      intro D hD
      obtain ⟨g1, g2, g3, g4⟩ := getD hD
      have hp := (lp_mem hc).mp g3
      have IH := ih (D ++ [p]) g4
      rw [cp_app, sumM_app, List.length_append, List.length_singleton] at IH
      rw [List.length_cons, wl_X9_meanMoves_20, c2.1]
      refine ⟨fun z => absurd z (nI_ge (by omega) (by omega)), fun _ => s_posAt hc c2 g1 (s_inMoves rfl c2.2.2 hp ⟨fun z x3 hx3 => ?_, fun z x1 hx1 x2 hx2 x3 hx3 => ?_⟩)⟩
      · have h0 : slv A.S.cfg p = 0 := by
          rcases Nat.eq_zero_or_pos (slv A.S.cfg p) with e | e
          · exact e
          · have := hb30 p
            obtain ⟨j, hj⟩ : ∃ j, slv A.S.cfg p = j + 1 := ⟨slv A.S.cfg p - 1, by omega⟩
            rw [hj, nv_s] at z
            exact absurd z (nI_pos (by omega))
        rw [hx3, nI_1]
        rw [show pTold A.S.cfg p = false from decide_eq_false (fun e => e h0), if_neg Bool.false_ne_true, Nat.add_zero, h0] at IH
        exact IH
      · have h0 : slv A.S.cfg p ≠ 0 := fun e => z (by rw [e]; decide +kernel)
        obtain ⟨j, hj⟩ : ∃ j, slv A.S.cfg p = j + 1 := ⟨slv A.S.cfg p - 1, by omega⟩
        rw [hx3, hx2, hx1, nI_1, nI_1, hj, nv_s, nI_add]
        rw [show pTold A.S.cfg p = true from decide_eq_true h0, if_pos rfl, hj, Nat.add_sub_cancel] at IH
        exact IH
  exact loop (lp A.S.cfg) [] rfl
noncomputable def drawnV (c : Cfg) : UInt32 := FP.fdiv (FP.i2f (nI ((lp c).countP (pIn c (-1))))) (FP.i2f (nI (lp c).length))
noncomputable def a_drawn (A : Ab) : AnsD := if (lp A.S.cfg).length = 0 then (1, (0, A)) else (0, (FP.f2d (drawnV A.S.cfg), A))
theorem L_drawn {V : Nat → Cfg} {W : Nat} {u : MU} {A : Ab} {o : Nat → UInt64} {Q : Int32 → MU → (Nat → UInt64) → Prop} (hC : CI V W u A none 0) (hW : W < 2 ^ 20) (hq : DPost W (a_drawn A) Q) : w_L_drawn u o Q := by
  have hc := hC.c
  have hl := lp_len hc
  unfold a_drawn at hq
  unfold w_L_drawn w_X9_drawn
  refine s_solve95 hC hW (fun u' c1 c2 c3 => ?_)
  rw [c2.1]
  refine ⟨fun z => s_positionsIn c1 hW (fun u2' c4 c5 => ?_), fun z => ?_⟩
  · have h0 : ¬ (lp A.S.cfg).length = 0 := fun e => z (by rw [e]; rfl)
    rw [if_neg h0] at hq
    rw [c5.1]
    obtain ⟨n1, n2⟩ := fdiv_n (x := nI ((lp A.S.cfg).countP (pIn A.S.cfg (-1)))) (n := (lp A.S.cfg).length) (by omega) (by omega)
    exact ⟨n1, n2, DPost.ret hq (W' := W) (by omega) rfl c4⟩
  · have h0 : (lp A.S.cfg).length = 0 := (nI_eq (b := 0) (by omega) (by decide)).mp z
    rw [if_pos h0] at hq
    exact ⟨rfl, DPost.exc hq (W' := W) (by omega) rfl c1⟩
/-- the greatest value of the positions -/
noncomputable def maxM (c : Cfg) (D : List Nat) : Nat := D.foldl (fun m p => max m (slv c p)) 0
noncomputable def accV (A : Ab) (x : Int32) : Int32 :=
  if x = 0 then nI A.S.n else if x = 1 then nI A.S.ps.length else if x = 2 then nI (pcN A.S.traps) else if x = 3 then nI A.S.geese
  else if x = 7 then (match A.S.game with
    | none => -1
    | some (h, _) => nI h.length) else if x = 8 then A.S.begun else if x = 9 then nI A.hist.length else if x = 10 then nI A.text.length
  else if x = 5 then nI ((lp A.S.cfg).countP (pIn A.S.cfg 0)) else if x = 4 then nI (lp A.S.cfg).length else nv (maxM A.S.cfg (lp A.S.cfg))
noncomputable def a_account (A : Ab) (x : Int32) : Ans := if x < 0 then (1, (0, A)) else if 10 < x then (1, (0, A)) else (0, (accV A x, A))
theorem maxM_lt {c : Cfg} (hc : CfgOk c) (D : List Nat) : maxM c D < 2 ^ 20 := by
  have : ∀ (D : List Nat) (m : Nat), m < 2 ^ 20 → D.foldl (fun m p => max m (slv c p)) m < 2 ^ 20 := by
    intro D
    induction D with
    | nil => exact fun m h => h
    | cons p t ih =>
      intro m h
      rw [List.foldl_cons]
      exact ih _ (Nat.max_lt.mpr ⟨h, slv_lt hc p⟩)
  exact this D 0 (by decide)
theorem i_maxv {a b : Nat} (ha : a < 2 ^ 30) (hb : b < 2 ^ 30) : (if nv a < nv b then nv b else nv a) = nv (max a b) := by
  by_cases h : a < b
  · rw [if_pos ((nv_lt ha hb).mpr h), Nat.max_eq_right (Nat.le_of_lt h)]
  · rw [if_neg (fun z => h ((nv_lt ha hb).mp z)), Nat.max_eq_left (by omega)]
theorem L_account {V : Nat → Cfg} {W : Nat} {u : MU} {A : Ab} {o : Nat → Int64} {x : Int32} {Q : Int32 → MU → (Nat → Int64) → Prop} (hC : CI V W u A none 0) (hW : W < 2 ^ 20) (hq : LPost W (a_account A x) Q) : w_L_account x u o Q := by
  have hc := hC.c
  have hl := lp_len hc
  have hb30 := slv_lt30 hc
  unfold a_account at hq
  unfold w_L_account w_X9_account wb_X9_account_10
  refine ⟨fun h => ?_, fun h => ⟨fun h2 => ?_, fun h2 => ?_⟩⟩
  · rw [if_pos h] at hq
    exact ⟨rfl, LPost.exc (j := 0) hq (W' := W) (by omega) rfl hC⟩
  · rw [if_neg h, if_neg (fun z => (fa_of_lt z).2.1 h2)] at hq
    have ret : ∀ v : Int32, accV A x = v → ∀ u', CI V W u' A none 0 → Q 0 u' (vp_updL o ((0 : Int32)).toNatClampNeg v.toInt64) := fun v e u' c => LPost.ret hq (W' := W) (by omega) (by rw [e]) c
    unfold accV at ret
    obtain ⟨m1, m2, m3, m4, m5, m6, m7, m8, m9, m10⟩ := hC.M
    rw [show u 2 0 = nI A.S.n from hC.F.1, show u 2 1 = nI A.S.ps.length from hC.B.2.1, show u 2 2 = nI A.S.traps from hC.F.2.1, show u 2 3 = nI A.S.geese from hC.F.2.2.1, show u 1 2 = A.S.begun from hC.B.2.2.2.1, m3.1, m8.1]
    refine ⟨fun e0 => ret _ (by rw [if_pos e0]) u hC, fun e0 => ⟨fun e1 => ret _ (by rw [if_neg e0, if_pos e1]) u hC, fun e1 => ⟨fun e2 => s_bitCountI hC.S.2.2.1 (ret _ (by rw [if_neg e0, if_neg e1, if_pos e2]) u hC), fun e2 => ⟨fun e3 => ret _ (by rw [if_neg e0, if_neg e1, if_neg e2, if_pos e3]) u hC, fun e3 => ⟨fun e7 => ?_, fun e7 => ⟨fun e8 => ret _ (by rw [if_neg e0, if_neg e1, if_neg e2, if_neg e3, if_neg e7, if_pos e8]) u hC, fun e8 => ⟨fun e9 => ret _ (by rw [if_neg e0, if_neg e1, if_neg e2, if_neg e3, if_neg e7, if_neg e8, if_pos e9]) u hC, fun e9 => ⟨fun e10 => ret _ (by rw [if_neg e0, if_neg e1, if_neg e2, if_neg e3, if_neg e7, if_neg e8, if_neg e9, if_pos e10]) u hC, fun e10 => ?_⟩⟩⟩⟩⟩⟩⟩⟩
    · have hG := hC.B.2.2.2.2
      cases hg : A.S.game with
      | none =>
        rw [hg] at hG
        refine ⟨fun _ => ret _ ?_ u hC, fun z => absurd hG z⟩
        rw [if_neg e0, if_neg e1, if_neg e2, if_neg e3, if_pos e7, hg]
      | some z =>
        obtain ⟨h, p⟩ := z
        rw [hg] at hG
        have g1 : u 6 0 = 1 := hG.1
        have g2 : u 6 1 = nI h.length := hG.2.1
        rw [g2]
        refine ⟨fun z => absurd (g1.symm.trans z) (by decide), fun _ => ret _ ?_ u hC⟩
        rw [if_neg e0, if_neg e1, if_neg e2, if_neg e3, if_pos e7, hg]
    · rw [if_neg e0, if_neg e1, if_neg e2, if_neg e3, if_neg e7, if_neg e8, if_neg e9, if_neg e10] at ret
      unfold w_X9_accountOfPositions
      refine ⟨fun e5 => s_solve95 hC hW (fun u' c1 c2 c3 => ?_), fun e5 => s_positionsIn hC hW (fun u' c1 c2 => ret _ (by rw [if_pos e5]) u' c1)⟩
      rw [if_neg e5] at ret
      refine ⟨fun e4 => ⟨(lp A.S.cfg).length + 1, ?_⟩, fun e4 => ?_⟩
      · have ret' := ret _ (by rw [if_neg e4])
        have loop : ∀ (R D : List Nat), lp A.S.cfg = D ++ R → wl_X9_accountOfPositions_42 (fun r u1 => Q 0 u1 (vp_updL o ((0 : Int32)).toNatClampNeg r.toInt64)) (R.length + 1) (nv (maxM A.S.cfg D)) (nI D.length) u' := by
          intro R
          induction R with
          | nil =>
            intro D hD
            rw [List.append_nil] at hD
            subst hD
            rw [List.length_nil, wl_X9_accountOfPositions_42, c2.1]
            exact ⟨fun _ => ret' u' c1, fun z => absurd (nI_le (Nat.le_refl _) (by omega)) z⟩
          | cons p R ih =>
            intro D hD
            obtain ⟨g1, g2, g3, g4⟩ := getD hD
            have hp := (lp_mem hc).mp g3
            have IH := ih (D ++ [p]) g4
            have em : maxM A.S.cfg (D ++ [p]) = max (maxM A.S.cfg D) (slv A.S.cfg p) := by unfold maxM; rw [List.foldl_append]; rfl
            rw [em, List.length_append, List.length_singleton] at IH
            rw [List.length_cons, wl_X9_accountOfPositions_42, c2.1]
            refine ⟨fun z => absurd z (nI_ge (by omega) (by omega)), fun _ => s_posAt hc c2 g1 (s_inMoves rfl c2.2.2 hp (fun x2 hx2 x3 hx3 => ?_))⟩
            rw [hx3, hx2, nI_1, i_maxv (Nat.lt_trans (maxM_lt hc D) (by decide)) (hb30 p)]
            exact IH
        have := loop (lp A.S.cfg) [] rfl
        rw [show maxM A.S.cfg [] = 0 from rfl, nv_0] at this
        exact this
      · rw [c2.1]
        exact ret _ (by rw [if_pos e4]) u' c1
  · rw [if_neg h, if_pos (fa_of_nle h2)] at hq
    exact ⟨rfl, LPost.exc (j := 0) hq (W' := W) (by omega) rfl hC⟩
