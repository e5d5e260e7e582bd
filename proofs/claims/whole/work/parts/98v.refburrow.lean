/-! the reference: what a path would change, burrows -/
theorem r_forFox {v : MU} {A : Ab} (hK : KI v A) {m : Nat} (hm : m < 1296) {Q : Int32 → Prop} (h : Q (bI (foxW m (slv A.S.cfg m)))) : w_X10_isForFox v (nI m) Q := by
  unfold w_X10_isForFox wb_X10_isForFox_18
  refine ⟨vpos hm, r_tu hm ?_⟩
  rw [show (nI m).toNatClampNeg = m from nI_clamp (by omega), (hK.2.2.2 m hm).1]
  unfold foxW at h
  have t := tu_lt m
  rcases (show tu m = 0 ∨ tu m = 1 by omega) with z | z
  · rw [z] at h ⊢
    rw [if_pos rfl] at h
    refine jj0 ⟨fun z2 => ?_, fun z2 => ?_⟩
    · rw [decide_eq_false z2] at h; exact h
    · rw [decide_eq_true z2] at h; exact h
  · rw [z] at h ⊢
    rw [if_neg (by decide)] at h
    refine jj1 ⟨fun z2 => ?_, fun z2 => ?_⟩
    · rw [decide_eq_false z2] at h; exact h
    · rw [decide_eq_true z2] at h; exact h
theorem abv_ok : ∀ m, m < 256 → ∀ a, a < 8 → nI m >>> ((nI a + 1) &&& 31) = nI (m / 2 ^ (a + 1)) ∧ pcN (m / 2 ^ (a + 1)) = pcN (abv a m) := by decide +kernel
theorem M_burrowOf {v : MU} {A : Ab} {x y : Int32} {Q : Int32 → MU → Prop} (hI : RI v A) (hq : MPost (a_burrowOf A x y) Q) : w_X10_burrowOf x y v Q := by
  unfold a_burrowOf at hq
  unfold w_X10_burrowOf
  refine r_knows hI (fun v2 K2 => r_isBurrow K2.c K2.R (bI_br2 (fun e1 => ?_) (fun e1 => ?_)))
  · rw [if_pos e1] at hq
    exact K2.rs (j := 0) hq rfl
  · rw [if_neg (by rw [e1]; decide)] at hq
    have hc := K2.c
    have hn := hc.hn
    obtain ⟨hx, hxn⟩ := has_of hc e1
    have ret : ∀ k w : Int32, y = k → ¬ k < 0 → ¬ 3 < k → burVal A (cl x) k = w → Q w v2 := fun k w e h1 h2 h3 => by
      subst e
      rw [if_neg h1, if_neg h2] at hq
      exact K2.ret hq (by rw [h3])
    generalize hb : cl x = b at *
    subst hx
    have hbc : (nI b).toNatClampNeg = b := nI_clamp (by omega)
    have v8 : vp_in (nI b) 8 := vp_in_nI (by omega) (by decide)
    have hnb := hc.hb b
    obtain ⟨ab1, ab2⟩ := abv_ok _ hnb b (by omega)
    rw [hbc, K2.2.2.1 b (by omega), ab1]
    refine ⟨fun e => ⟨v8, s_bitCountI hnb (ret 0 _ e (by decide) (by decide) rfl)⟩, fun e0 => ⟨fun e => ⟨v8, s_bitCountI (Nat.lt_of_le_of_lt (Nat.div_le_self _ _) hnb) ?_⟩, fun e2 => ⟨fun e => r_isTrap hc K2.R (by omega) ?_, fun e3 => ⟨fun e x4 hx4 => ⟨163, ?_⟩, fun e4 => ?_⟩⟩⟩⟩
    · rw [ab2]
      exact ret 1 _ e (by decide) (by decide) rfl
    · have r2 : Q (bI (A.S.traps.testBit b)) v2 := ret 2 _ e (by decide) (by decide) rfl
      show (bI (A.S.traps.testBit b) = 0 → Q 0 v2) ∧ (¬ bI (A.S.traps.testBit b) = 0 → Q 1 v2)
      cases z : A.S.traps.testBit b
      · rw [z] at r2; exact jj0 r2
      · rw [z] at r2; exact jj1 r2
    · have e162 : (162 : Int32) * (nI b + 1) = nI (162 * (b + 1)) := by rw [nI_1, show (162 : Int32) = nI 162 from rfl, pk_mul]
      have loop : ∀ n m, m + n = 162 * (b + 1) → 162 * b ≤ m → wl_X10_burrowOf_97 Q (n + 1) (nI b) (nI ((pre A.S.cfg m).countP (pFox A.S.cfg b))) (nI m) v2 := by
        intro n
        induction n with
        | zero =>
          intro m hm hm2
          rw [wl_X10_burrowOf_97, e162]
          refine ⟨fun _ => ?_, fun z => absurd (nI_le (by omega) (by omega)) z⟩
          have ek := pre_k (c := A.S.cfg) (P := pFox A.S.cfg b) (m := m) (1296 - m) (fun q h1 h2 => by
            unfold pFox
            rw [decide_eq_false (fun e => by unfold fx at e; omega)]; rfl)
          rw [show m + (1296 - m) = 1296 by omega, pre_all hc] at ek
          rw [← ek]
          exact ret 3 _ e (by decide) (by decide) rfl
        | succ n ih =>
          intro m hm hm2
          have IH := ih (m + 1) (by omega) (by omega)
          have hm3 : m < 1296 := by omega
          rw [wl_X10_burrowOf_97, e162]
          have no : (posB A.S.cfg m = true → pFox A.S.cfg b m = false) → wb_X10_burrowOf_130 (fun x1' x3' x4' u' => wl_X10_burrowOf_97 Q (n + 1) x1' x3' x4' u') Q (nI b) (nI ((pre A.S.cfg m).countP (pFox A.S.cfg b))) (nI m) v2 := fun e x5 hx5 => by
            rw [hx5, nI_1]
            rw [pre_c0 e] at IH
            exact IH
          refine ⟨fun z => absurd z (nI_ge (by omega) (by omega)), fun _ => r_isPosition hc K2.R ?_⟩
          rw [posI_nI (by omega)]
          have hfx : fx m = b := by unfold fx; omega
          cases hp : posB A.S.cfg m with
          | false => exact jj0 (no (fun z => absurd (hp.symm.trans z) (by decide)))
          | true =>
            refine jj1 (r_forFox K2 hm3 (bI_br (fun e5 => no (fun _ => ?_)) (fun e5 x3 hx3 x5 hx5 => ?_)))
            · unfold pFox; rw [e5, Bool.and_false]
            · rw [hx5, hx3, nI_1, nI_1]
              rw [pre_c1 hp (show pFox A.S.cfg b m = true by unfold pFox; rw [decide_eq_true hfx, e5]; rfl)] at IH
              exact IH
      have := loop 162 (162 * b) (by omega) (Nat.le_refl _)
      have z0 : (pre A.S.cfg (162 * b)).countP (pFox A.S.cfg b) = 0 := by
        have ek := pre_k (c := A.S.cfg) (P := pFox A.S.cfg b) (m := 0) (162 * b) (fun q h1 h2 => by
          unfold pFox
          rw [decide_eq_false (fun e => by unfold fx at e; omega)]; rfl)
        rw [Nat.zero_add] at ek
        rw [ek]; rfl
      rw [z0] at this
      rw [hx4, show (162 : Int32) * nI b = nI (162 * b) by rw [show (162 : Int32) = nI 162 from rfl, pk_mul]]
      exact this
    · have big : y < 0 ∨ 3 < y := by
        by_cases h : y < 0
        · exact Or.inl h
        · obtain ⟨m, hm, rfl⟩ := nI_of h
          rcases Nat.lt_or_ge m 4 with q | q
          · exfalso
            rcases (show m = 0 ∨ m = 1 ∨ m = 2 ∨ m = 3 by omega) with z | z | z | z
            · exact e0 (by rw [z]; rfl)
            · exact e2 (by rw [z]; rfl)
            · exact e3 (by rw [z]; rfl)
            · exact e4 (by rw [z]; rfl)
          · exact Or.inr (nI_lt (a := 3) (by omega) hm)
      by_cases h2 : y < 0
      · rw [if_pos h2] at hq
        exact K2.rs (j := 1) hq rfl
      · rw [if_neg h2, if_pos (big.resolve_left h2)] at hq
        exact K2.rs (j := 1) hq rfl
theorem M_bestBurrow {v : MU} {A : Ab} {x : Int32} {Q : Int32 → MU → Prop} (hI : RI v A) (hq : MPost (a_bestBurrow A x) Q) : w_X10_bestBurrow x v Q := by
  unfold a_bestBurrow at hq
  unfold w_X10_bestBurrow
  refine r_knows hI (fun v2 K2 => r_posn K2 (fun e => ii0 ?_) (fun p e1 hp2 hp e3 e => ii1 ⟨A.S.n + 1, ?_⟩))
  · rw [if_pos e] at hq
    exact K2.rs (j := 0) hq rfl
  · rw [if_neg (by rw [e]; decide), e3] at hq
    subst e1
    have hc := K2.c
    have hn : A.S.n ≤ 8 := K2.1.1.1.1
    have hb30 := slv_lt30 hc
    have loop : ∀ (n f : Nat) (B : Option Nat), f + n = A.S.n → (∀ t, B = some t → t < 1296) → bbF A.S.cfg p n f B = bbF A.S.cfg p A.S.n 0 none → wl_X10_bestBurrow_22 Q (n + 1) (nI p) (lgF B) (nI f) v2 := by
      intro n
      induction n with
      | zero =>
        intro f B hf hB he
        rw [bbF] at he
        rw [← he] at hq
        rw [wl_X10_bestBurrow_22, c0, show v2 118 0 = nI A.S.n from K2.1.2.1.1]
        refine ⟨i119 (n := 0) (by decide), fun _ => ?_, fun z => absurd (nI_le (by omega) (by omega)) z⟩
        cases B with
        | none => exact ⟨fun z => absurd z (by decide), fun _ => K2.rs (j := 0) hq rfl⟩
        | some t =>
          have := hB t rfl
          exact ⟨fun _ => r_fx this (K2.ret hq rfl), fun z => absurd (nI_le (a := 0) (by omega) (show t < 2 ^ 31 by omega)) z⟩
      | succ n ih =>
        intro f B hf hB he
        rw [bbF] at he
        obtain ⟨fx1, fx2⟩ := foxAt_fx (f := f) hp2
        have ht : foxAt p f < 1296 := by omega
        have no : bbStep A.S.cfg p B f = B → wb_X10_bestBurrow_94 (fun x1' x2' x3' u' => wl_X10_bestBurrow_22 Q (n + 1) x1' x2' x3' u') Q (nI p) (lgF B) (nI f) v2 := fun e x5 hx5 => by
          rw [hx5, nI_1]
          exact ih (f + 1) B (by omega) hB (by rw [e] at he; exact he)
        have yes : bbStep A.S.cfg p B f = some (foxAt p f) → wb_X10_bestBurrow_91 (fun x1' x2' x3' u' => wl_X10_bestBurrow_22 Q (n + 1) x1' x2' x3' u') Q (nI p) (nI f) (nI (foxAt p f)) v2 := fun e x5 hx5 => by
          rw [hx5, nI_1]
          exact ih (f + 1) (some (foxAt p f)) (by omega) (fun t h => by cases h; exact ht) (by rw [e] at he; exact he)
        rw [wl_X10_bestBurrow_22, c0, show v2 118 0 = nI A.S.n from K2.1.2.1.1]
        refine ⟨i119 (n := 0) (by decide), fun z => absurd z (nI_ge (by omega) (by omega)), fun _ => r_fi hp2 (r_se hp2 (r_tu hp2 (r_num (tu_lt p) (r_isPosition hc K2.R ?_))))⟩
        show (bI (posI A.S.cfg (nI (foxAt p f))) = 0 → _) ∧ (¬ bI (posI A.S.cfg (nI (foxAt p f))) = 0 → w_X10_isForFox v2 (nI (foxAt p f)) _)
        rw [posI_nI (by omega)]
        cases hpo : posB A.S.cfg (foxAt p f) with
        | false => exact jj0 (no (by unfold bbStep; rw [hpo, Bool.false_and, if_neg Bool.false_ne_true]))
        | true =>
          refine jj1 (r_forFox K2 ht (bI_br2 (fun e5 => no ?_) (fun e5 => ?_)))
          · unfold bbStep; rw [e5, Bool.and_false, if_neg Bool.false_ne_true]
          · have st : bbStep A.S.cfg p B f = bbTake A.S.cfg (foxAt p f) B := by unfold bbStep; rw [hpo, e5, Bool.and_self, if_pos rfl]
            cases B with
            | none => exact ⟨fun _ => yes (by rw [st]; rfl), fun z => absurd m1_lt z⟩
            | some b =>
              have hb := hB b rfl
              obtain ⟨j1, j2⟩ := K2.2.2.2 b hb
              obtain ⟨k1, k2⟩ := K2.2.2.2 (foxAt p f) ht
              show (nI b < 0 → _) ∧ (¬ nI b < 0 → vp_in (nI (foxAt p f)) 1296 ∧ (vp_in (nI b) 1296 ∧ ((v2 127 (nI b).toNatClampNeg ≤ v2 127 (nI (foxAt p f)).toNatClampNeg → _) ∧ (¬ v2 127 (nI b).toNatClampNeg ≤ v2 127 (nI (foxAt p f)).toNatClampNeg → _))))
              rw [show (nI b).toNatClampNeg = b from nI_clamp (by omega), j2, show (nI (foxAt p f)).toNatClampNeg = foxAt p f from nI_clamp (by omega), k2]
              refine ⟨fun z => absurd z (nI_pos (show b < 2 ^ 31 by omega)), fun _ => ⟨vpos ht, vpos hb, fun z3 => no ?_, fun z3 => yes ?_⟩⟩
              · have := (nv_le (hb30 b) (hb30 (foxAt p f))).mp z3
                rw [st]
                show (if slv A.S.cfg (foxAt p f) < slv A.S.cfg b then some (foxAt p f) else some b) = some b
                rw [if_neg (by omega)]
              · have : ¬ slv A.S.cfg b ≤ slv A.S.cfg (foxAt p f) := fun z2 => z3 ((nv_le (hb30 b) (hb30 (foxAt p f))).mpr z2)
                rw [st]
                show (if slv A.S.cfg (foxAt p f) < slv A.S.cfg b then some (foxAt p f) else some b) = some (foxAt p f)
                rw [if_pos (by omega)]
    exact loop A.S.n 0 none (by omega) (fun t h => by cases h) rfl
theorem M_wouldChange {v : MU} {A : Ab} {x y : Int32} {Q : Int32 → MU → Prop} (hI : RI v A) (hq : MPost (a_wouldChange A x y) Q) : w_X10_wouldChange x y v Q := by
  unfold a_wouldChange at hq
  unfold w_X10_wouldChange wb_X10_wouldChange_20
  refine r_knows hI (fun v2 K2 => r_isBurrow K2.c K2.R (bI_br (fun e1 => ?_) (fun e1 => r_isBurrow K2.c K2.R (bI_br2 (fun e2 => ?_) (fun e2 => ⟨fun e3 => ⟨1297, ?_⟩, fun e3 => ?_⟩)))))
  · rw [if_pos e1] at hq
    exact K2.rs (j := 0) hq rfl
  · rw [if_neg (by rw [e1]; decide), if_pos e2] at hq
    exact K2.rs (j := 0) hq rfl
  · rw [if_neg (by rw [e1]; decide), if_neg (by rw [e2]; decide), if_neg e3] at hq
    have hc := K2.c
    have hn := hc.hn
    obtain ⟨hx, hxn⟩ := has_of hc e1
    obtain ⟨hy, hyn⟩ := has_of hc e2
    generalize hb : cl x = a at *
    generalize hb2 : cl y = b at *
    subst hx
    subst hy
    have hab : a ≠ b := fun z => e3 (by rw [z])
    have hc' := tglC_ok hc hxn hyn hab
    have va : vp_in (nI a) 8 := vp_in_nI (by omega) (by decide)
    have vb : vp_in (nI b) 8 := vp_in_nI (by omega) (by decide)
    have hac : (nI a).toNatClampNeg = a := nI_clamp (by omega)
    have hbc : (nI b).toNatClampNeg = b := nI_clamp (by omega)
    obtain ⟨j1, j2, j3, j4⟩ := K2.1
    have loop : ∀ n m v', m + n = 1296 → (∀ d, d ≠ 128 → v' d = v2 d) → (∀ q, q < m → v' 128 q = v2 126 q) → wl_X10_wouldChange_39 Q (n + 1) (nI a) (nI b) (nI m) v' := by
      intro n
      induction n with
      | zero =>
        intro m v' hm f' c'
        rw [wl_X10_wouldChange_39, hac, hbc]
        refine ⟨fun _ => ⟨va, va, fun v4 e4 => ⟨vb, vb, fun v7 e7 => ?_⟩⟩, fun z => absurd (le1296 hm) z⟩
        rw [f' 125 (by decide), K2.2.2.1 a (by omega), tp_bit b (by omega), fb_xorI] at e4
        rw [tp_bit a (by omega), show v4 125 b = nI (A.S.cfg.near b) by rw [e4, u2_o (Or.inr (fun z => hab z.symm)), f' 125 (by decide)]; exact K2.2.2.1 b (by omega), fb_xorI] at e7
        have f7 : ∀ d, d ≠ 128 → d ≠ 125 → v7 d = v2 d := fun d h1 h2 => by rw [e7, u2_ne h2, e4, u2_ne h2]; exact f' d h1
        have N7 : RNear v7 (tglC A.S.cfg a b) := fun q hq => by
          show v7 125 q = nI (tglN A.S.cfg.near a b q)
          unfold tglN
          by_cases z1 : q = a
          · rw [if_pos z1, z1, e7, u2_o (Or.inr hab), e4, u2_at]
          · rw [if_neg z1]
            by_cases z2 : q = b
            · rw [if_pos z2, z2, e7, u2_at]
            · rw [if_neg z2, e7, u2_o (Or.inr z2), e4, u2_o (Or.inr z1), f' 125 (by decide)]
              exact K2.2.2.1 q hq
        have R7 : RIs v7 (tglC A.S.cfg a b) := by
          obtain ⟨r1, r2, r3⟩ := K2.R
          exact ⟨by rw [f7 118 (by decide) (by decide)]; exact r1, by rw [f7 118 (by decide) (by decide)]; exact r2, by rw [f7 118 (by decide) (by decide)]; exact r3⟩
        refine r_looks hc' R7 N7 (fun v9 f f9 hf hfb hs9 => ⟨1297, ?_⟩)
        have O9 := SIs_slv hc' hf hs9
        have c9 : ∀ q, q < 1296 → v9 128 q = outI (slv A.S.cfg q) := fun q hq => by
          rw [f9 128 q (by omega) (by decide) (by decide) (by decide) (by decide), e7, u2_ne (by decide), e4, u2_ne (by decide), c' q (by omega)]
          exact (K2.2.2.2 q hq).1
        have OF9 : OF v2 v9 := by
          refine OF.tr ⟨fun j _ _ _ => by rw [f7 117 (by decide) (by decide)], fun d h1 h2 => f7 d (by omega) (by omega)⟩ (FL_OF f9)
        have loop2 : ∀ n m, m + n = 1296 → wl_X10_wouldChange_97 Q (n + 1) (nI ((pre A.S.cfg m).countP (pChange A.S.cfg (tglC A.S.cfg a b)))) (nI m) v9 := by
          intro n
          induction n with
          | zero =>
            intro m hm
            rw [wl_X10_wouldChange_97]
            refine ⟨fun _ a1 e1 => ?_, fun z => absurd (le1296 hm) z⟩
            rw [show m = 1296 by omega, pre_all hc]
            have s1 : ∀ j, j ≠ 22 → a1 117 j = v9 117 j := fun j hj => by rw [e1]; exact u2_o (Or.inr hj)
            have r1 : ∀ d, d ≠ 117 → a1 d = v9 d := fun d hd => by rw [e1]; exact u2_ne hd
            refine hq a1 _ ⟨j1, by rw [r1 118 (by decide), OF9.2 118 (by decide) (by decide)]; exact j2, RMem_of (fun j i1 i2 _ i4 i5 => by rw [s1 j i4]; exact OF9.1 j i1 i2 i5) (fun d h1 h2 => by rw [r1 d (by omega)]; exact OF9.2 d (by omega) (by omega)) j3, Or.inl (by rw [e1, u2_at])⟩ (by rw [s1 17 (by decide), OF9.1 17 (by decide) (by decide) (by decide)]; exact K2.2.1) (fun _ => rfl)
          | succ n ih =>
            intro m hm
            have IH := ih (m + 1) (by omega)
            have hmc : (nI m).toNatClampNeg = m := nI_clamp (by omega)
            rw [wl_X10_wouldChange_97, hmc, c9 m (by omega), (O9 m (by omega)).1]
            unfold wb_X10_wouldChange_125
            refine ⟨fun z => absurd z (ge1296 hm), fun _ => ⟨vpos (by omega), vpos (by omega), fun z x5 hx5 => ?_, fun z x3 hx3 x5 hx5 => ?_⟩⟩
            · rw [hx5, nI_1]
              rw [pre_c0 (fun _ => show pChange A.S.cfg (tglC A.S.cfg a b) m = false by unfold pChange; rw [decide_eq_true z]; rfl)] at IH
              exact IH
            · rw [hx5, hx3, nI_1, nI_1]
              have hp : posB A.S.cfg m = true := by
                cases hp : posB A.S.cfg m with
                | true => rfl
                | false =>
                  have hp' : posB (tglC A.S.cfg a b) m = false := hp
                  exact absurd (by rw [slv_out hc hp, slv_out hc' hp']) z
              rw [pre_c1 hp (show pChange A.S.cfg (tglC A.S.cfg a b) m = true by unfold pChange; rw [decide_eq_false z]; rfl)] at IH
              exact IH
        exact loop2 1296 0 (by omega)
      | succ n ih =>
        intro m v' hm f' c'
        have hmc : (nI m).toNatClampNeg = m := nI_clamp (by omega)
        rw [wl_X10_wouldChange_39, hmc, f' 126 (by decide)]
        refine ⟨fun z => absurd z (ge1296 hm), fun _ => ⟨vpos (by omega), vpos (by omega), fun a1 e1 x3 hx3 => ?_⟩⟩
        rw [hx3, nI_1]
        refine ih (m + 1) a1 (by omega) (fun d hd => by rw [e1, u2_ne hd]; exact f' d hd) (fun q hq => ?_)
        by_cases z : q = m
        · rw [z, e1, u2_at]
        · rw [e1, u2_o (Or.inr z)]; exact c' q (by omega)
    exact loop 1296 0 v2 (by omega) (fun _ _ => rfl) (fun q hq => by omega)
  · rw [if_neg (by rw [e1]; decide), if_neg (by rw [e2]; decide), if_pos e3] at hq
    exact K2.rs (j := 1) hq rfl
