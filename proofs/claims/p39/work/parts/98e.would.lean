/-! the class: a path more or less, tried -/
def tglC (c : Cfg) (a b : Nat) : Cfg := (c.n, (c.traps, (c.geese, tglN c.near a b)))
theorem tglC_ok {c : Cfg} (hc : CfgOk c) {a b : Nat} (ha : a < c.n) (hb : b < c.n) (hab : a ≠ b) : CfgOk (tglC c a b) := by
  have hn := hc.hn
  have tb : ∀ x y, ((tglN c.near a b) x).testBit y = ((c.near x).testBit y ^^ ((decide (x = a) && decide (y = b)) || (decide (x = b) && decide (y = a)))) := fun x y => by
    unfold tglN
    by_cases e1 : x = a
    · rw [if_pos e1, fb_bit_flip, e1, decide_eq_true rfl, decide_eq_false hab, Bool.true_and, Bool.false_and, Bool.or_false]
    · rw [if_neg e1]
      by_cases e2 : x = b
      · rw [if_pos e2, fb_bit_flip, e2, decide_eq_true rfl, decide_eq_false (show ¬ b = a from fun e => hab e.symm), Bool.true_and, Bool.false_and, Bool.false_or]
      · rw [if_neg e2, decide_eq_false e1, decide_eq_false e2, Bool.false_and, Bool.false_and, Bool.or_false, Bool.xor_false]
  refine ⟨hc.hn, hc.hg, hc.ht, fun x => ?_, fun x y h => ?_, fun x y => ?_⟩
  · show tglN c.near a b x < 256
    unfold tglN
    have p1 : 2 ^ b < 2 ^ 8 := Nat.pow_lt_pow_right (by decide) (by omega)
    have p2 : 2 ^ a < 2 ^ 8 := Nat.pow_lt_pow_right (by decide) (by omega)
    split
    · exact Nat.xor_lt_two_pow (n := 8) (hc.hb a) p1
    · split
      · exact Nat.xor_lt_two_pow (n := 8) (hc.hb b) p2
      · exact hc.hb x
  · have h' : ((tglN c.near a b) x).testBit y = true := h
    rw [tb] at h'
    show x < c.n ∧ y < c.n ∧ x ≠ y
    by_cases e1 : x = a ∧ y = b
    · rw [e1.1, e1.2]; exact ⟨ha, hb, hab⟩
    · by_cases e2 : x = b ∧ y = a
      · rw [e2.1, e2.2]; exact ⟨hb, ha, fun e => hab e.symm⟩
      · have z : ((decide (x = a) && decide (y = b)) || (decide (x = b) && decide (y = a))) = false := by
          rw [Bool.or_eq_false_iff, Bool.and_eq_false_iff, Bool.and_eq_false_iff, decide_eq_false_iff_not, decide_eq_false_iff_not, decide_eq_false_iff_not, decide_eq_false_iff_not]
          omega
        rw [z, Bool.xor_false] at h'
        exact hc.hin x y h'
  · show ((tglN c.near a b) x).testBit y = ((tglN c.near a b) y).testBit x
    rw [tb, tb, hc.hsym x y]
    congr 1
    rw [Bool.eq_iff_iff]
    simp only [Bool.or_eq_true, Bool.and_eq_true, decide_eq_true_eq]
    omega
noncomputable def pChange (c c' : Cfg) (p : Nat) : Bool := !decide (outI (slv c p) = outI (slv c' p))
noncomputable def a_wouldChange (A : Ab) (x y : Int32) : Ans := if hasI A.S.cfg x = false then (1, (0, A)) else if hasI A.S.cfg y = false then (1, (0, A)) else if x = y then (2, (0, A)) else (0, (nI ((lp A.S.cfg).countP (pChange A.S.cfg (tglC A.S.cfg (cl x) (cl y)))), A))
theorem setS_S (A : Ab) : A.setS A.S = A := rfl
theorem CI_ver {V V' : Nat → Cfg} {W : Nat} {u u' : MU} {A : Ab} {B : Bf} {i : Int32} (hC : CI V W u A B i) (hx : Vx V W V' (W + 1)) (h : ∀ a, a ≠ 0 → u' a = u a) (h0 : ∀ j, j ≠ 15 → u' 0 j = u 0 j) (hW : u' 0 15 = nI (W + 1)) : CI V' (W + 1) u' A B i := by
  rw [← setS_S A]
  exact CI_now hC hx h0 hW (fun a ha => h a (by omega)) hC.S (BIs_of (fun a ha _ => h a (by omega)) hC.B) (VIs_of hx (by rw [h _ (by decide)]) hC.V)
theorem L_wouldChange {V : Nat → Cfg} {W : Nat} {u : MU} {A : Ab} {o : Nat → Int64} {x y : Int32} {Q : Int32 → MU → (Nat → Int64) → Prop} (hC : CI V W u A none 0) (hW : W + 1 < 2 ^ 20) (hq : LPost W (a_wouldChange A x y) Q) : w_L_wouldChange x y u o Q := by
  have hc := hC.c
  have hn := hc.hn
  unfold a_wouldChange at hq
  unfold w_L_wouldChange w_X9_wouldChange wb_X9_wouldChange_28
  refine s_has hC.F (bI_br (fun e1 => ?_) (fun e1 => ?_))
  · rw [if_pos e1] at hq
    exact Or.inl ⟨rfl, LPost.exc (j := 0) hq (W' := W) (by omega) rfl hC⟩
  · rw [if_neg (by rw [e1]; decide)] at hq
    refine s_has hC.F (bI_br2 (fun e2 => ?_) (fun e2 => ⟨fun hne => ?_, fun he => ?_⟩))
    · rw [if_pos e2] at hq
      exact Or.inl ⟨rfl, LPost.exc (j := 0) hq (W' := W) (by omega) rfl hC⟩
    · rw [if_neg (by rw [e2]; decide), if_neg hne] at hq
      obtain ⟨hx, hxn⟩ := has_of hc e1
      obtain ⟨hy, hyn⟩ := has_of hc e2
      have hab : cl x ≠ cl y := fun z => hne (by rw [hx, hy, z])
      have hc' := tglC_ok hc hxn hyn hab
      generalize hc2 : tglC A.S.cfg (cl x) (cl y) = c' at *
      have hF := hC.F
      refine s_fieldBecome (k0 := 91) (k1 := 2) rfl rfl (by decide) (fun u9 f9 b1 b2 b3 b4 => ?_)
      have T := s_turnNear (u := u9) (k := 91) rfl (nr := A.S.cfg.near) (a := cl x) (b := cl y) (fun z hz => by rw [b4 z hz]; exact hF.2.2.2 z hz) (by omega) (by omega) hab (Q := fun u_11 => w_X9_newVersion u_11 (fun r_12 u_13 => (∀ u_14, u_14 = u2 u_13 91 4 r_12 → w_X7_solve 95 2 u_14 (fun u_16 => w_X7_solve 100 91 u_16 (fun u_18 => ∃ nn, wl_X9_wouldChange_117 (fun r u1 => Q 0 u1 (vp_updL o ((0 : Int32)).toNatClampNeg r.toInt64)) (fun E u1 => (E = "java/lang/IndexOutOfBoundsException" ∧ Q (1 : Int32) u1 o) ∨ (E = "java/lang/IllegalArgumentException" ∧ Q (2 : Int32) u1 o)) nn (0 : Int32) (0 : Int32) u_18))))) (fun u11 o11 t11 => ?_)
      · rw [← hx, ← hy] at T
        exact T
      · unfold w_X9_newVersion
        intro u13 e13 u14 e14
        have f11 : ∀ a, (a < 91 ∨ 94 < a) → u11 a = u a := fun a ha => by rw [o11 a (by omega), f9 a (by omega)]
        have v13 : u13 0 15 = nI (W + 1) := by rw [e13, u2_at, f11 0 (by omega), hC.2.1, nI_1]
        rw [v13] at e14
        -- first the version, then the trial field
        have hxV : Vx V W (fun w => if w = W + 1 then c' else V w) (W + 1) := ⟨by omega, fun w hw => if_neg (by omega)⟩
        have hC1 : CI (fun w => if w = W + 1 then c' else V w) (W + 1) (u2 u 0 15 (nI (W + 1))) A none 0 := CI_ver hC hxV (fun a ha => u2_ne ha) (fun j hj => u2_o (Or.inr hj)) u2_at
        have hC2 : CI (fun w => if w = W + 1 then c' else V w) (W + 1) u14 A none 0 := by
          refine CI_aside hC1 (fun a h1 _ => ?_)
          rw [e14, u2_ne (by omega), e13]
          by_cases h0 : a = 0
          · subst h0; rw [u2_same, u2_same, f11 0 (by omega), hC.2.1, nI_1]
          · rw [u2_ne h0, u2_ne h0]; exact f11 a h1
        have g91 : ∀ j, j ≠ 4 → j < 5 → u14 91 j = u 2 j := fun j hj h5 => by rw [e14, u2_o (Or.inr hj), e13, u2_ne (by decide), o11 91 (by decide)]; exact b1 j h5
        have hF91 : FIs u14 91 c' := by
          rw [← hc2]
          refine ⟨?_, ?_, ?_, fun z hz => ?_⟩
          · rw [g91 0 (by decide) (by decide)]; exact hF.1
          · rw [g91 2 (by decide) (by decide)]; exact hF.2.1
          · rw [g91 3 (by decide) (by decide)]; exact hF.2.2.1
          · rw [e14, u2_ne (by decide), e13, u2_ne (by decide)]; exact t11 z hz
        have v91 : u14 91 4 = nI (W + 1) := by rw [e14, u2_at]
        refine s_solve95 hC2 (by omega) (fun u16 c16 t16 f16 => ?_)
        refine s_solve_at (k := 100) (k1 := 91) (w := W + 1) (Or.inr rfl) (by decide) c16 (by omega) hc' (FIs_of (f16 91 (by omega)) (f16 94 (by omega)) hF91) (Nat.le_refl _) (by rw [f16 91 (by omega)]; exact v91) (if_pos rfl) (fun u18 c18 t18 f18 => ?_)
        have t95 := TbIs_of (u' := u18) (fun a _ _ => f18 a (by omega)) t16
        have hl := lp_len hc
        have pos' : ∀ p, posB c' p = posB A.S.cfg p := fun p => by rw [← hc2]; rfl
        have loop : ∀ (R D : List Nat), lp A.S.cfg = D ++ R → wl_X9_wouldChange_117 (fun r u1 => Q 0 u1 (vp_updL o ((0 : Int32)).toNatClampNeg r.toInt64)) (fun E u1 => (E = "java/lang/IndexOutOfBoundsException" ∧ Q (1 : Int32) u1 o) ∨ (E = "java/lang/IllegalArgumentException" ∧ Q (2 : Int32) u1 o)) (R.length + 1) (nI (D.countP (pChange A.S.cfg c'))) (nI D.length) u18 := by
          intro R
          induction R with
          | nil =>
            intro D hD
            rw [List.append_nil] at hD
            subst hD
            rw [List.length_nil, wl_X9_wouldChange_117, t95.1]
            exact ⟨fun _ => LPost.ret hq (W' := W + 1) (by omega) rfl c18, fun z => absurd (nI_le (Nat.le_refl _) (by omega)) z⟩
          | cons p R ih =>
            intro D hD
            obtain ⟨g1, g2, g3, g4⟩ := getD hD
            have hp := (lp_mem hc).mp g3
            have IH := ih (D ++ [p]) g4
            rw [cp_app, List.length_append, List.length_singleton] at IH
            rw [List.length_cons, wl_X9_wouldChange_117, t95.1]
            refine ⟨fun z => absurd z (nI_ge (by omega) (by omega)), fun _ => s_posAt hc t95 g1 (s_outcomeOf rfl t95.2.2 (slv_lt30 hc) hp (s_outcomeOf rfl t18.2.2 (slv_lt30 hc') (by rw [pos']; exact hp) ⟨fun z x4 hx4 => ?_, fun z x3 hx3 x4 hx4 => ?_⟩))⟩
            · rw [hx4, nI_1]
              rw [show pChange A.S.cfg c' p = false by unfold pChange; rw [decide_eq_true z]; rfl, if_neg Bool.false_ne_true, Nat.add_zero] at IH
              exact IH
            · rw [hx4, hx3, nI_1, nI_1]
              rw [show pChange A.S.cfg c' p = true by unfold pChange; rw [decide_eq_false z]; rfl, if_pos rfl] at IH
              exact IH
        exact ⟨_, loop (lp A.S.cfg) [] rfl⟩
    · rw [if_neg (by rw [e2]; decide), if_pos he] at hq
      exact Or.inr ⟨rfl, LPost.exc (j := 1) hq (W' := W) (by omega) rfl hC⟩
