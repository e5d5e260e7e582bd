/-! the reference's queries of positions -/
def KI (v : MU) (A : Ab) : Prop := RI v A ∧ v 117 17 = 0 ∧ RNear v A.S.cfg ∧ OIs v (slv A.S.cfg)
theorem RI.fr {v v' : MU} {A : Ab} (h : FR v v') (hI : RI v A) : RI v' A := by
  obtain ⟨i1, i2, i3, i4⟩ := hI
  have f := FR_OF h
  refine ⟨i1, by rw [f.2 118 (by decide) (by decide)]; exact i2, RMem_of (fun j a b _ _ e => f.1 j a b e) (fun a ha hb => f.2 a (by omega) (by omega)) i3, ?_⟩
  rw [f.1 22 (by decide) (by decide) (by decide)]
  rcases i4 with z | ⟨z, z2⟩
  · exact Or.inl z
  · exact Or.inr ⟨z, z2.FR h⟩
theorem KI.fr {v v' : MU} {A : Ab} (h : FR v v') (hK : KI v A) : KI v' A := ⟨hK.1.fr h, by rw [(FR_OF h).1 17 (by decide) (by decide) (by decide)]; exact hK.2.1, h.RNear hK.2.2.1, hK.2.2.2.FR h⟩
theorem KI_mk {v v' a : MU} {A : Ab} (hA : AbOk A) (hR : RwIs (v 118) A.S) (hM : RMem v A) (f : OF v v') (h17 : v 117 17 = 0) (hN : RNear v' A.S.cfg) (hO : OIs v' (slv A.S.cfg)) (e : a = u2 v' 117 22 1) : KI a A := by
  have r : ∀ b, b ≠ 117 → a b = v' b := fun b hb => by rw [e, u2_ne hb]
  have s : ∀ j, j ≠ 22 → a 117 j = v' 117 j := fun j hj => by rw [e]; exact u2_o (Or.inr hj)
  have hO' : OIs a (slv A.S.cfg) := fun q hq => by rw [r 126 (by decide), r 127 (by decide)]; exact hO q hq
  refine ⟨⟨hA, by rw [r 118 (by decide), f.2 118 (by decide) (by decide)]; exact hR, RMem_of (fun j j1 j2 _ j4 j5 => by rw [s j j4]; exact f.1 j j1 j2 j5) (fun b hb1 hb2 => by rw [r b (by omega)]; exact f.2 b (by omega) (by omega)) hM, Or.inr ⟨by rw [e, u2_at], hO'⟩⟩, by rw [s 17 (by decide), f.1 17 (by decide) (by decide) (by decide)]; exact h17, fun b hb => by rw [r 125 (by decide)]; exact hN b hb, hO'⟩
theorem r_knows {v : MU} {A : Ab} (hI : RI v A) {Q : MU → Prop} (hq : ∀ v', KI v' A → Q v') : w_X10_knows v Q := by
  unfold w_X10_knows wb_X10_knows_20
  intro a1 e1
  obtain ⟨i1, h17⟩ := RI_0 hI e1
  obtain ⟨j1, j2, j3, j4⟩ := i1
  refine r_nears j1.1 j2 (fun v3 f3 n3 => ⟨fun z a e => ?_, fun z => ?_⟩)
  · refine hq a (KI_mk j1 j2 j3 (NF_OF f3) h17 n3 ?_ e)
    rw [f3 117 (by decide)] at z
    rcases j4 with y | ⟨y, y2⟩
    · exact absurd y z
    · exact fun q hq => by rw [f3 126 (by decide), f3 127 (by decide)]; exact y2 q hq
  · refine r_looks j1.1.cfg (NF_RIs f3 ⟨j2.1, j2.2.1, j2.2.2.1⟩) n3 (fun v9 f f9 hf hfb hs9 a e => ?_)
    exact hq a (KI_mk j1 j2 j3 ((NF_OF f3).tr (FL_OF f9)) h17 (f9.RNear n3) (SIs_slv j1.1.cfg hf hs9) e)
theorem KI.c {v : MU} {A : Ab} (h : KI v A) : CfgOk A.S.cfg := h.1.c
theorem KI.R {v : MU} {A : Ab} (h : KI v A) : RIs v A.S.cfg := h.1.R
theorem KI.S {v : MU} {A : Ab} (h : KI v A) : SIs v A.S.cfg (slv A.S.cfg) := OIs_SIs h.c h.2.2.2
theorem KI.ret {v : MU} {x : Int32} {A : Ab} {k : Ans} {Q : Int32 → MU → Prop} (hK : KI v A) (hq : MPost k Q) (hk : k = (0, (x, A))) : Q x v := MPost.ret hq hk hK.1 hK.2.1
theorem KI.rs {v : MU} {y : Int32} {A : Ab} {k : Ans} {j : Nat} {Q : Int32 → MU → Prop} (hK : KI v A) (hq : MPost k Q) (hk : k = (j + 1, (y, A))) : w_X10_raises (nI (j + 1)) v (fun r u => Q r u) := r_raise hK.1 hq hk
theorem in3 {x a b : Int32} {K : Int32 → Prop} (h0 : x < a → K 0) (h1 : ¬ x < a → b < x → K 0) (h2 : ¬ x < a → ¬ b < x → K 1) : w_X10_in x a b K := ⟨h0, fun z => ⟨h1 z, h2 z⟩⟩
/-- first: is it a position -/
theorem r_posn {v : MU} {A : Ab} (hK : KI v A) {x : Int32} {K : Int32 → Prop} (h0 : posI A.S.cfg x = false → K 0) (h1 : ∀ p, x = nI p → p < 1296 → posB A.S.cfg p = true → cl x = p → posI A.S.cfg x = true → K 1) : w_X10_isPosition v x K := by
  refine r_isPosition hK.c hK.R ?_
  cases e : posI A.S.cfg x
  · exact h0 e
  · obtain ⟨p, e2, hp2, hp⟩ := posI_of e
    exact h1 p e2 hp2 hp (by rw [e2]; exact nI_clamp (by omega)) e
theorem ii0 {P R : Prop} (h : P) : (¬ (0 : Int32) = 0 → R) ∧ ((0 : Int32) = 0 → P) := ⟨fun z => absurd rfl z, fun _ => h⟩
theorem ii1 {P R : Prop} (h : P) : (¬ (1 : Int32) = 0 → P) ∧ ((1 : Int32) = 0 → R) := ⟨fun _ => h, fun z => absurd z (by decide)⟩
theorem jj0 {P R : Prop} (h : P) : ((0 : Int32) = 0 → P) ∧ (¬ (0 : Int32) = 0 → R) := ⟨fun _ => h, fun z => absurd rfl z⟩
theorem jj1 {P R : Prop} (h : P) : ((1 : Int32) = 0 → R) ∧ (¬ (1 : Int32) = 0 → P) := ⟨fun z => absurd z (by decide), fun _ => h⟩
theorem vpos {p : Nat} (h : p < 1296) : vp_in (nI p) 1296 := vp_in_nI h (by decide)
theorem M_positionOf {v : MU} {A : Ab} {x y : Int32} {Q : Int32 → MU → Prop} (hI : RI v A) (hq : MPost (a_positionOf A x y) Q) : w_X10_positionOf x y v Q := by
  unfold a_positionOf at hq
  unfold w_X10_positionOf
  refine r_knows hI (fun v2 K2 => in3 (fun h => ?_) (fun h h2 => ?_) (fun h h2 => ?_))
  · rw [if_pos h] at hq
    exact ii0 (K2.rs (j := 0) hq rfl)
  · rw [if_neg h, if_pos h2] at hq
    exact ii0 (K2.rs (j := 0) hq rfl)
  · rw [if_neg h, if_neg h2] at hq
    refine ii1 (r_posn K2 (fun e => ?_) (fun p e1 hp2 hp e3 e => ii1 ?_))
    · rw [if_pos e] at hq
      exact ii0 (K2.rs (j := 1) hq rfl)
    · rw [if_neg (by rw [e]; decide), e3] at hq
      subst e1
      have hc := K2.c
      have ret : ∀ w : Int32, posVal2 A.S.cfg p y = w → ∀ u', KI u' A → Q w u' := fun w e u' c => c.ret hq (by rw [e])
      unfold posVal2 posVal at ret
      have no : ¬ y = 0 → ¬ y = 1 → ¬ y = 2 → ¬ y = 3 → ¬ y = 4 → ¬ (y = 0 ∨ y = 1 ∨ y = 2 ∨ y = 3 ∨ y = 4) := fun e0 e1 e2 e4 e5 z => by
        rcases z with z | z | z | z | z
        · exact e0 z
        · exact e1 z
        · exact e2 z
        · exact e4 z
        · exact e5 z
      refine ⟨fun e0 => r_fx hp2 ?_, fun e0 => ⟨fun e1 => r_fi hp2 ?_, fun e1 => ⟨fun e2 => r_se hp2 ?_, fun e2 => ⟨fun e4 => r_tu hp2 ?_, fun e4 => ⟨fun e5 => r_finds hc K2.R K2.2.2.1 hp (fun v7 f7 l7 => ?_), fun e5 => ⟨fun e6 => ⟨vpos hp2, ?_⟩, fun e6 => ⟨vpos hp2, ?_⟩⟩⟩⟩⟩⟩⟩
      · exact ret _ (by rw [if_pos (Or.inl e0), if_pos e0]) v2 K2
      · exact ret _ (by rw [if_pos (Or.inr (Or.inl e1)), if_neg e0, if_pos e1]) v2 K2
      · exact ret _ (by rw [if_pos (Or.inr (Or.inr (Or.inl e2))), if_neg e0, if_neg e1, if_pos e2]) v2 K2
      · have r := ret _ (by rw [if_pos (Or.inr (Or.inr (Or.inr (Or.inl e4)))), if_neg e0, if_neg e1, if_neg e2, if_pos e4]) v2 K2
        have t := tu_lt p
        rcases (show tu p = 0 ∨ tu p = 1 by omega) with t2 | t2
        · rw [t2] at r ⊢; exact jj0 r
        · rw [t2] at r ⊢; exact jj1 r
      · rw [l7.1]
        exact ret _ (by rw [if_pos (Or.inr (Or.inr (Or.inr (Or.inr e5)))), if_neg e0, if_neg e1, if_neg e2, if_neg e4, if_pos e5]) v7 (K2.fr f7)
      · rw [show (nI p).toNatClampNeg = p from nI_clamp (by omega), (K2.2.2.2 p hp2).1]
        exact ret _ (by rw [if_neg (no e0 e1 e2 e4 e5), if_pos e6]) v2 K2
      · rw [show (nI p).toNatClampNeg = p from nI_clamp (by omega), (K2.2.2.2 p hp2).2]
        exact ret _ (by rw [if_neg (no e0 e1 e2 e4 e5), if_neg e6]) v2 K2
theorem M_outcomeAgain {v : MU} {A : Ab} {x : Int32} {Q : Int32 → MU → Prop} (hI : RI v A) (hq : MPost (a_outcomeAgain A x) Q) : w_X10_outcomeAgain x v Q := by
  unfold a_outcomeAgain at hq
  unfold w_X10_outcomeAgain
  refine r_knows hI (fun v2 K2 => r_posn K2 (fun e => jj0 ?_) (fun p e1 hp2 hp e3 e => jj1 ⟨?_, ?_⟩))
  · rw [if_pos e] at hq
    exact K2.rs (j := 0) hq rfl
  · rw [e1]; exact vpos hp2
  · rw [if_neg (by rw [e]; decide), e3] at hq
    subst e1
    rw [show (nI p).toNatClampNeg = p from nI_clamp (by omega), (K2.2.2.2 p hp2).1]
    exact K2.ret hq rfl
theorem M_moveOf {v : MU} {A : Ab} {x y : Int32} {b : Bool} {Q : Int32 → MU → Prop} (hI : RI v A) (hq : MPost (a_moveOf A x y b) Q) : w_X10_moveOf x y (bI b) v Q := by
  unfold a_moveOf at hq
  unfold w_X10_moveOf
  refine r_knows hI (fun v2 K2 => r_posn K2 (fun e => ii0 ?_) (fun p e1 hp2 hp e3 e => ii1 ?_))
  · rw [if_pos e] at hq
    exact K2.rs (j := 0) hq rfl
  · rw [if_neg (by rw [e]; decide), e3] at hq
    subst e1
    have hm24 := mvs_len24 K2.c hp
    refine r_finds K2.c K2.R K2.2.2.1 hp (fun v7 f7 l7 => ?_)
    have K7 := K2.fr f7
    rw [l7.1]
    refine in3 (fun h => ?_) (fun h h2 => ?_) (fun h h2 => ?_)
    · rw [if_pos h] at hq
      exact ii0 (K7.rs (j := 0) hq rfl)
    · rw [if_neg h] at hq
      obtain ⟨m, hm31, rfl⟩ := nI_of h
      rw [show cl (nI m) = m from nI_clamp hm31] at hq
      have hml : ¬ m < (mvs A.S.cfg p).length := fun z => by
        rw [nI_pr (by omega)] at h2
        have := (nI_ltI (by omega) hm31).mp h2
        omega
      rw [List.getElem?_eq_none (by omega)] at hq
      exact ii0 (K7.rs (j := 0) hq rfl)
    · rw [if_neg h] at hq
      obtain ⟨m, hm31, rfl⟩ := nI_of h
      rw [show cl (nI m) = m from nI_clamp hm31] at hq
      have hml : m < (mvs A.S.cfg p).length := by
        rcases Nat.lt_or_ge m (mvs A.S.cfg p).length with z | z
        · exact z
        · exfalso
          refine h2 ?_
          rcases Nat.eq_zero_or_pos (mvs A.S.cfg p).length with z2 | z2
          · rw [z2, show nI 0 - 1 = (-1 : Int32) by decide +kernel]; exact fa_trans m1_lt (nI_pos' hm31)
          · rw [nI_pr z2]; exact nI_lt (by omega) hm31
      rw [List.getElem?_eq_getElem hml] at hq
      obtain ⟨r1, r2⟩ := l7.2 m _ (List.getElem?_eq_getElem hml)
      rw [show (nI m).toNatClampNeg = m from nI_clamp hm31, r1, r2]
      refine ii1 (bI_br (fun e2 => ⟨vp_in_nI (by omega) (by decide), ?_⟩) (fun e2 => ⟨vp_in_nI (by omega) (by decide), ?_⟩))
      · rw [e2] at hq; exact K7.ret hq rfl
      · rw [e2] at hq; exact K7.ret hq rfl
theorem M_best {v : MU} {A : Ab} {x : Int32} {Q : Int32 → MU → Prop} (hI : RI v A) (hq : MPost (a_best A x) Q) : w_X10_best x v Q := by
  unfold a_best at hq
  unfold w_X10_best
  refine r_knows hI (fun v2 K2 => r_posn K2 (fun e => ii0 ?_) (fun p e1 hp2 hp e3 e => ii1 ?_))
  · rw [if_pos e] at hq
    exact K2.rs (j := 0) hq rfl
  · rw [if_neg (by rw [e]; decide), e3] at hq
    subst e1
    have hm24 := mvs_len24 K2.c hp
    refine r_bestPlace K2.c (slv_sol K2.c) (slv_lt K2.c) hp K2.R K2.2.2.1 K2.S (fun v7 B f7 l7 b7 => ?_)
    have K7 := K2.fr f7
    cases B with
    | none =>
      have hb : bestK A.S.cfg (slv A.S.cfg) p = none := b7
      rw [hb] at hq
      exact ⟨fun z => absurd z (by decide), fun _ => K7.rs (j := 0) hq rfl⟩
    | some w =>
      obtain ⟨b, y⟩ := w
      obtain ⟨k, hk1, hk2⟩ : ∃ k, (mvs A.S.cfg p)[b]? = some k ∧ bestK A.S.cfg (slv A.S.cfg) p = some k := b7
      have hbl := (List.getElem?_eq_some_iff.mp hk1).1
      obtain ⟨r1, r2⟩ := l7.2 b k hk1
      rw [hk2] at hq
      show (0 ≤ nI b → _) ∧ (¬ 0 ≤ nI b → _)
      refine ⟨fun _ => ⟨vp_in_nI (by omega) (by decide), vp_in_nI (by omega) (by decide), ?_⟩, fun z => absurd (nI_le (a := 0) (by omega) (show b < 2 ^ 31 by omega)) z⟩
      show Q (8 * v7 129 (nI b).toNatClampNeg + v7 130 (nI b).toNatClampNeg) v7
      rw [show (nI b).toNatClampNeg = b from nI_clamp (by omega), r1, r2, show (8 : Int32) = nI 8 from rfl, pk_mul, nI_add, show 8 * (k / 8) + k % 8 = k by omega]
      exact K7.ret hq rfl
theorem M_after {v : MU} {A : Ab} {x y z : Int32} {Q : Int32 → MU → Prop} (hI : RI v A) (hq : MPost (a_after A x y z) Q) : w_X10_after x y z v Q := by
  unfold a_after at hq
  unfold w_X10_after
  refine r_knows hI (fun v2 K2 => r_posn K2 (fun e => ii0 ?_) (fun p e1 hp2 hp e3 e => ii1 ?_))
  · rw [if_pos e] at hq
    exact K2.rs (j := 0) hq rfl
  · rw [if_neg (by rw [e]; decide), e3] at hq
    subst e1
    have hc := K2.c
    have hm24 := mvs_len24 hc hp
    have hal := al_any hc hp (x := y) (y := z)
    refine r_finds hc K2.R K2.2.2.1 hp (fun v7 f7 l7 => ⟨(mvs A.S.cfg p).length + 1, ?_⟩)
    have K7 := K2.fr f7
    have loop : ∀ (R D : List Nat), mvs A.S.cfg p = D ++ R → (∀ k, k ∈ D → (decide (nI (k / 8) = y) && decide (nI (k % 8) = z)) = false) → wl_X10_after_26 Q (R.length + 1) (nI p) y z (nI D.length) v7 := by
      intro R
      induction R with
      | nil =>
        intro D hD hno
        rw [List.append_nil] at hD
        rw [List.length_nil, wl_X10_after_26, l7.1, hD]
        refine ⟨fun _ => ?_, fun z => absurd (nI_le (Nat.le_refl _) (by rw [← hD]; omega)) z⟩
        have e2 : alI A.S.cfg p y z = false := by
          rw [hal, hD]
          cases e4 : D.any (fun k => decide (nI (k / 8) = y) && decide (nI (k % 8) = z)) with
          | false => rfl
          | true =>
            obtain ⟨k, k1, k2⟩ := List.any_eq_true.mp e4
            rw [hno k k1] at k2; cases k2
        rw [if_pos e2] at hq
        exact K7.rs (j := 0) hq rfl
      | cons k R ih =>
        intro D hD hno
        obtain ⟨g1, g2, g3, g4⟩ := getD hD
        obtain ⟨r1, r2⟩ := l7.2 _ k g1
        have IH := ih (D ++ [k]) g4
        rw [List.length_append, List.length_singleton] at IH
        rw [List.length_cons, wl_X10_after_26, l7.1]
        have no : (decide (nI (k / 8) = y) && decide (nI (k % 8) = z)) = false → wb_X10_after_64 (fun x1' x2' x3' x4' u' => wl_X10_after_26 Q (R.length + 1) x1' x2' x3' x4' u') Q (nI p) y z (nI D.length) v7 := fun h x5 hx5 => by
          rw [hx5, nI_1]
          refine IH (fun k' hk' => ?_)
          rcases List.mem_append.mp hk' with q | q
          · exact hno k' q
          · rw [List.mem_singleton.mp q]; exact h
        rw [show (nI D.length).toNatClampNeg = D.length from nI_clamp (by omega), r1, r2]
        refine ⟨fun z => absurd z (nI_ge (by omega) (by omega)), fun _ => ⟨vp_in_nI (by omega) (by decide), fun q => no ?_, fun q => ⟨vp_in_nI (by omega) (by decide), fun q2 => no ?_, fun q2 => ?_⟩⟩⟩
        · rw [decide_eq_false q]; rfl
        · rw [decide_eq_false q2, Bool.and_false]
        · have e2 : alI A.S.cfg p y z = true := by
            rw [hal]
            exact List.any_eq_true.mpr ⟨k, g3, by rw [decide_eq_true q, decide_eq_true q2]; rfl⟩
          rw [if_neg (by rw [e2]; decide)] at hq
          have hk := mvs_mem.mp g3
          rw [← q, ← q2]
          refine r_behind hc hp hk.2 ?_
          rw [← q, ← q2, show cl (nI (k / 8)) = k / 8 from nI_clamp (by omega), show cl (nI (k % 8)) = k % 8 from nI_clamp (by omega)] at hq
          exact K7.ret hq rfl
    exact loop (mvs A.S.cfg p) [] rfl (fun k hk => by cases hk)
theorem M_ends {v : MU} {A : Ab} {x : Int32} {Q : Int32 → MU → Prop} (hI : RI v A) (hq : MPost (a_ends A x) Q) : w_X10_ends x v Q := by
  unfold a_ends at hq
  unfold w_X10_ends wb_X10_ends_21
  refine r_knows hI (fun v2 K2 => r_posn K2 (fun e => jj0 ?_) (fun p e1 hp2 hp e3 e => jj1 ⟨?_, ?_⟩))
  · rw [if_pos e] at hq
    exact K2.rs (j := 0) hq rfl
  · rw [e1]; exact vpos hp2
  · rw [if_neg (by rw [e]; decide), e3] at hq
    subst e1
    have hc := K2.c
    have hs := slv_sol hc
    rw [show (nI p).toNatClampNeg = p from nI_clamp (by omega), (K2.2.2.2 p hp2).1]
    refine ⟨fun z0 => ?_, fun z0 => ?_⟩
    · have h0 : ¬ slv A.S.cfg p = 0 := fun z => z0 ((outI_0 _).mpr z)
      rw [if_neg h0] at hq
      have loop : ∀ (n q : Nat) (B : Option (Nat × Nat)) (v' : MU), slv A.S.cfg q = n + 1 → posB A.S.cfg q = true → endP A.S.cfg n q = endP A.S.cfg (slv A.S.cfg p - 1) p → KI v' A → MLs v' (mvs A.S.cfg q) → BPl A.S.cfg (slv A.S.cfg) q B → wl_X10_ends_35 Q (n + 1) (nI q) (bInt B) v' := by
        intro n
        induction n with
        | zero =>
          intro q B v' hn hqp he K' l' b'
          have hb : bestK A.S.cfg (slv A.S.cfg) q = none := by
            cases hb : bestK A.S.cfg (slv A.S.cfg) q with
            | none => rfl
            | some k =>
              exfalso
              unfold bestK at hb
              have h3 := List.find?_some hb
              have h1 : slv A.S.cfg (sh q (k / 8) (k % 8)) = slv A.S.cfg q - 1 := of_decide_eq_true h3
              have hk := mvs_mem.mp (List.mem_of_find?_eq_some hb)
              obtain ⟨al, -⟩ := Sol_lost hs hqp (by omega)
              have := (al _ _ hk.2).1
              omega
          cases B with
          | none =>
            rw [wl_X10_ends_35]
            refine ⟨fun _ => ?_, fun z => absurd m1_lt z⟩
            rw [← he] at hq
            exact K'.ret hq rfl
          | some w =>
            obtain ⟨b, y⟩ := w
            obtain ⟨k, hk1, hk2⟩ : ∃ k, (mvs A.S.cfg q)[b]? = some k ∧ bestK A.S.cfg (slv A.S.cfg) q = some k := b'
            rw [hb] at hk2; cases hk2
        | succ n ih =>
          intro q B v' hn hqp he K' l' b'
          rw [endP] at he
          cases B with
          | none =>
            have hb : bestK A.S.cfg (slv A.S.cfg) q = none := b'
            rw [hb] at he
            rw [wl_X10_ends_35]
            refine ⟨fun _ => ?_, fun z => absurd m1_lt z⟩
            rw [← he] at hq
            exact K'.ret hq rfl
          | some w =>
            obtain ⟨b, y⟩ := w
            obtain ⟨k, hk1, hk2⟩ : ∃ k, (mvs A.S.cfg q)[b]? = some k ∧ bestK A.S.cfg (slv A.S.cfg) q = some k := b'
            rw [hk2] at he
            have hbl := (List.getElem?_eq_some_iff.mp hk1).1
            have hm24 := mvs_len24 hc hqp
            obtain ⟨r1, r2⟩ := l'.2 b k hk1
            have hkm := mvs_mem.mp (List.mem_of_getElem? hk1)
            have hpos := (mv_wb hc hqp hkm.2).1
            have hv : slv A.S.cfg (sh q (k / 8) (k % 8)) = n + 1 := by
              unfold bestK at hk2
              have h3 := List.find?_some hk2
              have h1 : slv A.S.cfg (sh q (k / 8) (k % 8)) = slv A.S.cfg q - 1 := of_decide_eq_true h3
              omega
            rw [wl_X10_ends_35]
            refine ⟨fun z => absurd z (nI_pos (show b < 2 ^ 31 by omega)), fun _ => ⟨vp_in_nI (show b < 24 by omega) (by decide), vp_in_nI (show b < 24 by omega) (by decide), ?_⟩⟩
            show w_X10_behind (nI q) (v' 129 (nI b).toNatClampNeg) (v' 130 (nI b).toNatClampNeg) _
            rw [show (nI b).toNatClampNeg = b from nI_clamp (by omega), r1, r2]
            refine r_behind hc hqp hkm.2 (r_bestPlace hc hs (slv_lt hc) hpos K'.R K'.2.2.1 K'.S (fun v7 B7 f7 l7 b7 => ?_))
            exact ih _ B7 v7 hv hpos he (K'.fr f7) l7 b7
      refine r_bestPlace hc hs (slv_lt hc) hp K2.R K2.2.2.1 K2.S (fun v7 B f7 l7 b7 => ⟨slv A.S.cfg p - 1 + 1, ?_⟩)
      exact loop (slv A.S.cfg p - 1) p B v7 (by omega) hp rfl (K2.fr f7) l7 b7
    · have h0 : slv A.S.cfg p = 0 := (outI_0 _).mp z0
      rw [if_pos h0] at hq
      exact K2.rs (j := 0) hq rfl
