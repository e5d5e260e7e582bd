/-! the class: grow, trap, flock -/
theorem s_grow {V : Nat → Cfg} {W : Nat} {u : MU} {A : Ab} {B : Bf} {i : Int32} (hC : CI V W u A B i) {x y : Int32} {Q : Int32 → MU → Prop} (hq : CRes V W A B i Q (opGrow A.S x y)) : w_X9_dropPath x y u Q := by
  have hS := hC.S
  have hc := hC.c
  have hF := hC.F
  unfold opGrow at hq
  unfold w_X9_dropPath
  refine s_missing hC (fun e1 => ⟨fun z => absurd rfl z, fun _ => ?_⟩) (fun e1 u' g => ⟨fun _ => ?_, fun z => absurd z (by decide)⟩)
  · rw [if_neg (by rw [e1]; decide)] at hq
    refine s_missing hC (fun e2 => ⟨fun _ => ?_, fun z => absurd rfl z⟩) (fun e2 u' g => ⟨fun z => absurd z (by decide), fun _ => ?_⟩)
    · rw [if_neg (by rw [e2]; decide)] at hq
      obtain ⟨hx, hxn⟩ := has_of hc e1
      obtain ⟨hy, hyn⟩ := has_of hc e2
      have hn := hS.1
      have hxn' : cl x < A.S.n := hxn
      have hyn' : cl y < A.S.n := hyn
      have step : ∀ {P : Int32 → Prop}, P (optI (pix (cl x) (cl y) A.S.ps 0)) → w_X1_pathBetween 2 u x y P := fun {P} hP => by
        have := s_between hS hC.B (a := cl x) (b := cl y) (by omega) (by omega) hP
        rw [← hx, ← hy] at this
        exact this
      refine step ?_
      cases hp : pix (cl x) (cl y) A.S.ps 0 with
      | none =>
        rw [hp] at hq
        exact ⟨fun z => absurd rfl z, fun _ => s_refused hC (by decide) hq⟩
      | some j =>
        rw [hp] at hq
        obtain ⟨m, q, e3, e4, -⟩ := pix_some _ _ _ hp
        rw [Nat.zero_add] at e3
        subst e3
        have hml := (List.getElem?_eq_some_iff.mp e4).1
        have hl := hS.2.2.2.1.1
        have hps := psOk_erase hS.2.2.2.1 j
        have hS' : StOk (mkS A.S.n A.S.traps A.S.geese (A.S.ps.eraseIdx j) none A.S.begun) := ⟨hn, hS.2.1, hS.2.2.1, hps, fun h p e => by cases e⟩
        refine ⟨fun _ => ?_, fun z => absurd m1_lt (by rw [← z]; exact nI_pos (by omega))⟩
        refine s_part hS hC.B e4 (fun u' g1 g2 g3 g4 g5 => ?_)
        refine s_marked hC hS' g1 ⟨?_, ?_, ?_, fun b hb => ?_⟩ ?_ g4 rfl rfl (fun u2' V' k1 k2 => ?_)
        · rw [g2 0 (by decide)]; exact hF.1
        · rw [g2 2 (by decide)]; exact hF.2.1
        · rw [g2 3 (by decide)]; exact hF.2.2.1
        · rw [g5 b hb]; exact congrArg nI (near_erase hS.2.2.2.1 hn e4 hb).symm
        · rw [g3]; show _ = nI (A.S.ps.eraseIdx j).length; rw [List.length_eraseIdx_of_lt hml]
        · rw [k2 1 (by decide), g3]
          exact hq V' (W + 1) u2' (Nat.le_refl _) k1
    · rw [if_pos e2] at hq
      exact hq u' g
  · rw [if_pos e1] at hq
    exact hq u' g
theorem s_trap {V : Nat → Cfg} {W : Nat} {u : MU} {A : Ab} {B : Bf} {i : Int32} (hC : CI V W u A B i) {x : Int32} {b : Bool} {Q : Int32 → MU → Prop} (hq : CRes V W A B i Q (opTrap A.S x b)) : w_X9_turnTrap x (bI b) u Q := by
  have hS := hC.S
  have hc := hC.c
  have hF := hC.F
  unfold opTrap at hq
  unfold w_X9_turnTrap
  refine s_missing hC (fun e1 => ⟨fun _ => ?_, fun z => absurd rfl z⟩) (fun e1 u' g => ⟨fun z => absurd z (by decide), fun _ => ?_⟩)
  · rw [if_neg (by rw [e1]; decide)] at hq
    obtain ⟨hx, hxn⟩ := has_of hc e1
    have hn := hS.1
    have hxn' : cl x < A.S.n := hxn
    have step : ∀ {P : Int32 → Prop}, P (bI (A.S.traps.testBit (cl x))) → w_X1_isTrap 2 u x P := fun {P} hP => by
      have := s_isTrap hF (b := cl x) (by omega) hP
      rw [← hx] at this
      exact this
    refine step ⟨fun z a1 e2 => ?_, fun z => ?_⟩
    · rw [if_neg (fun e => z (by rw [e]))] at hq
      have ht : A.S.traps ^^^ 2 ^ cl x < 256 := Nat.xor_lt_two_pow (n := 8) hS.2.2.1 (Nat.pow_lt_pow_right (by decide) (by omega))
      have hS' : StOk (mkS A.S.n (A.S.traps ^^^ 2 ^ cl x) A.S.geese A.S.ps none A.S.begun) := ⟨hn, hS.2.1, ht, hS.2.2.2.1, fun h p e => by cases e⟩
      have f2 : ∀ j, j ≠ 2 → a1 2 j = u 2 j := fun j hj => by rw [e2]; exact u2_o (Or.inr hj)
      have fr : ∀ a, a ≠ 2 → a1 a = u a := fun a ha => by rw [e2]; exact u2_ne ha
      have f22 : a1 2 2 = nI (A.S.traps ^^^ 2 ^ cl x) := by
        rw [e2, u2_at, show u 2 2 = nI A.S.traps from hF.2.1]
        rw [show (1 : Int32) <<< (x &&& 31) = nI (2 ^ cl x) by rw [← tp_bit (cl x) (by omega), ← hx], fb_xorI]
      refine s_marked hC hS' (fun a ha => fr a (by omega)) ⟨?_, f22, ?_, fun b hb => ?_⟩ ?_ (fun j q hj => ?_) rfl rfl (fun u' V' g1 g2 => ?_)
      · rw [f2 0 (by decide)]; exact hF.1
      · rw [f2 3 (by decide)]; exact hF.2.2.1
      · rw [fr 5 (by decide)]; exact hF.2.2.2 b hb
      · rw [f2 1 (by decide)]; exact hC.B.2.1
      · rw [fr 3 (by decide), fr 4 (by decide)]; exact hC.B.2.2.1 j q hj
      · rw [g2 2 (by decide), f22]
        exact s_bitCountI ht (hq V' (W + 1) u' (Nat.le_refl _) g1)
    · have e : A.S.traps.testBit (cl x) = b := by
        cases h1 : A.S.traps.testBit (cl x) <;> cases b <;> rw [h1] at z <;> first | rfl | exact absurd z (by decide +kernel)
      rw [if_pos e] at hq
      exact s_refused hC (by decide) hq
  · rw [if_pos e1] at hq
    exact hq u' g
theorem s_flock {V : Nat → Cfg} {W : Nat} {u : MU} {A : Ab} {B : Bf} {i : Int32} (hC : CI V W u A B i) {x : Int32} {Q : Int32 → MU → Prop} (hq : CRes V W A B i Q (opFlock A.S x)) : w_X9_setGeese x u Q := by
  have hS := hC.S
  have hF := hC.F
  unfold opFlock at hq
  unfold w_X9_setGeese wb_X9_setGeese_10
  have e3 : u 2 3 = nI A.S.geese := hF.2.2.1
  refine ⟨fun h1 => ?_, fun h1 => ⟨fun h2 x2 hx2 => ⟨fun h3 a1 e1 => ?_, fun h3 => ?_⟩, fun h2 => ?_⟩⟩
  · rw [if_pos h1] at hq
    exact s_refused hC (by decide) hq
  · rw [if_neg h1, if_neg (fun z => (fa_of_lt z).2.1 h2)] at hq
    rw [hx2, e3] at h3
    rw [if_neg h3] at hq
    have hx0 : ¬ x < 0 := fun z => h1 (fa_trans z (by decide))
    obtain ⟨g, hg, rfl⟩ := nI_of hx0
    have hcg : cl (nI g) = g := nI_clamp hg
    rw [hcg] at hq
    have g1 : ¬ g < 1 := fun z => h1 (nI_lt (b := 1) z (by decide))
    have g2 : g ≤ 2 := (nI_leI (b := 2) hg (by decide)).mp h2
    have hS' : StOk (mkS A.S.n A.S.traps g A.S.ps none A.S.begun) := ⟨hS.1, by show g = 1 ∨ g = 2; omega, hS.2.2.1, hS.2.2.2.1, fun h p e => by cases e⟩
    have f2 : ∀ j, j ≠ 3 → a1 2 j = u 2 j := fun j hj => by rw [e1]; exact u2_o (Or.inr hj)
    have fr : ∀ a, a ≠ 2 → a1 a = u a := fun a ha => by rw [e1]; exact u2_ne ha
    have f23 : a1 2 3 = nI g := by rw [e1, u2_at]
    refine s_marked hC hS' (fun a ha => fr a (by omega)) ⟨?_, ?_, f23, fun b hb => ?_⟩ ?_ (fun j q hj => ?_) rfl rfl (fun u' V' k1 k2 => ?_)
    · rw [f2 0 (by decide)]; exact hF.1
    · rw [f2 2 (by decide)]; exact hF.2.1
    · rw [fr 5 (by decide)]; exact hF.2.2.2 b hb
    · rw [f2 1 (by decide)]; exact hC.B.2.1
    · rw [fr 3 (by decide), fr 4 (by decide)]; exact hC.B.2.2.1 j q hj
    · rw [hx2, e3]
      exact hq V' (W + 1) u' (Nat.le_refl _) k1
  · rw [if_neg h1, if_neg (fun z => (fa_of_lt z).2.1 h2)] at hq
    rw [hx2, e3] at h3
    rw [if_pos h3] at hq
    exact s_refused hC (by decide) hq
  · rw [if_neg h1, if_pos (fa_of_nle h2)] at hq
    exact s_refused hC (by decide) hq
