/-! the reference's changes: grow, trap, flock, begin, back -/
theorem r_grows {v : MU} {A : Ab} {T : Tr} (hO : RO v A T) {x y : Int32} {Q : Int32 → MU → Prop} (hq : RRes A T Q (opGrow A.S x y)) : w_X10_grows x y v Q := by
  obtain ⟨h0, h1, h2, h3, h4, h5, h6⟩ := hO.2.1
  have hS := hO.1.1
  have hc := hO.c
  unfold opGrow at hq
  unfold w_X10_grows
  refine r_lacks hO (fun e v' g => ?_) (fun e e2 v' g => ?_) (fun e e2 => ?_)
  · rw [if_pos e] at hq
    exact ⟨fun z => absurd z (by decide), fun _ => hq v' g⟩
  · rw [if_neg (by rw [e]; decide), if_pos e2] at hq
    exact ⟨fun z => absurd z (by decide), fun _ => hq v' g⟩
  · rw [if_neg (by rw [e]; decide), if_neg (by rw [e2]; decide)] at hq
    obtain ⟨hx, hxn⟩ := has_of hc e
    obtain ⟨hy, hyn⟩ := has_of hc e2
    have hn := hS.1
    have hl := hS.2.2.2.1.1
    have hxn' : cl x < A.S.n := hxn
    have hyn' : cl y < A.S.n := hyn
    refine ⟨fun _ => ?_, fun z => absurd (by decide) z⟩
    have step : ∀ {P : Int32 → Prop}, P (optI (pix (cl x) (cl y) A.S.ps 0)) → w_X10_path v x y P := fun {P} hP => by
      have := r_path hS hO.2.1 (a := cl x) (b := cl y) (by omega) (by omega) hP
      rw [← hx, ← hy] at this
      exact this
    refine step ?_
    cases hp : pix (cl x) (cl y) A.S.ps 0 with
    | none =>
      rw [hp] at hq
      exact ⟨fun z => absurd z (by decide), fun _ => r_refuses hO (by decide) hq⟩
    | some i =>
      rw [hp] at hq
      obtain ⟨m, q, e3, e4, -⟩ := pix_some _ _ _ hp
      rw [Nat.zero_add] at e3
      subst e3
      have hil := (List.getElem?_eq_some_iff.mp e4).1
      refine ⟨fun _ => r_endsGame (fun v4 f4 g4 g5 k4 => ⟨i119 (n := 3) (by decide), i119 (n := 3) (by decide), fun a11 e11 x4 hx4 => ⟨2 * (A.S.ps.length - 1 - i) + 1, ?_⟩⟩), fun z => absurd (nI_pos' (show i < 2 ^ 31 by omega)) z⟩
      rw [c3, k4 3 (by decide) (by decide), h3, nI_pr (by omega)] at e11
      have hx4' : x4 = nI (7 + 2 * i) := by rw [hx4]; exact i7 i
      rw [hx4']
      have f11 : ∀ a, a ≠ 118 → a11 a = v a := fun a ha => by rw [e11, u2_ne ha]; exact f4 a ha
      have s11 : ∀ j, j ≠ 3 → j ≠ 4 → j ≠ 5 → a11 118 j = v 118 j := fun j a b d => by rw [e11, u2_o (Or.inr a)]; exact k4 j b d
      have c11 : a11 118 3 = nI (A.S.ps.length - 1) := by rw [e11, u2_at]
      have loop : ∀ (n j : Nat) (v' : MU), n + j = 7 + 2 * (A.S.ps.length - 1) → 7 + 2 * i ≤ j → (∀ a, a ≠ 118 → v' a = a11 a) → (∀ m, v' 118 m = if 7 + 2 * i ≤ m ∧ m < j then a11 118 (m + 2) else a11 118 m) → wl_X10_grows_52 Q (n + 1) (nI j) v' := by
        intro n
        induction n with
        | zero =>
          intro j v' hj hij f' s'
          have c' : v' 118 3 = nI (A.S.ps.length - 1) := by rw [s' 3, if_neg (by omega)]; exact c11
          rw [wl_X10_grows_52, c3, c', i7]
          refine ⟨i119 (n := 3) (by decide), fun _ => ⟨i119 (n := 3) (by decide), ?_⟩, fun z => absurd (nI_le (by omega) (by omega)) z⟩
          have fr : ∀ a, a ≠ 118 → v' a = v a := fun a ha => by rw [f' a ha]; exact f11 a ha
          have lo : ∀ m, m < 7 + 2 * i → m ≠ 3 → m ≠ 4 → m ≠ 5 → v' 118 m = v 118 m := fun m hm a b d => by rw [s' m, if_neg (by omega)]; exact s11 m a b d
          refine hq v' (RO_now hO (R118 fr).1 (R118 fr).2 ⟨hn, hS.2.1, hS.2.2.1, psOk_erase hS.2.2.2.1 i, fun h p e => by cases e⟩ ⟨?_, ?_, ?_, ?_, fun m q' hm => ?_, ?_, ?_, ?_⟩)
          · rw [lo 0 (by omega) (by decide) (by decide) (by decide)]; exact h0
          · rw [lo 1 (by omega) (by decide) (by decide) (by decide)]; exact h1
          · rw [lo 2 (by omega) (by decide) (by decide) (by decide)]; exact h2
          · rw [c']; show _ = nI (A.S.ps.eraseIdx i).length; rw [List.length_eraseIdx_of_lt hil]
          · have hm' : (A.S.ps.eraseIdx i)[m]? = some q' := hm
            have hml := (List.getElem?_eq_some_iff.mp hm').1
            rw [List.length_eraseIdx_of_lt hil] at hml
            rw [List.getElem?_eraseIdx] at hm'
            by_cases e : m < i
            · rw [if_pos e] at hm'
              rw [lo _ (by omega) (by omega) (by omega) (by omega), lo _ (by omega) (by omega) (by omega) (by omega)]
              exact h4 m q' hm'
            · rw [if_neg e] at hm'
              rw [s' (7 + 2 * m), s' (7 + 2 * m + 1), if_pos (by omega), if_pos (by omega), s11 _ (by omega) (by omega) (by omega), s11 _ (by omega) (by omega) (by omega)]
              have := h4 (m + 1) q' hm'
              rw [show 7 + 2 * (m + 1) = 7 + 2 * m + 2 by omega] at this
              exact this
          · rw [lo 6 (by omega) (by decide) (by decide) (by decide)]; exact h5
          · rw [s' 4, if_neg (by omega), e11, u2_o (Or.inr (by decide))]; exact g4
          · rw [s' 5, if_neg (by omega), e11, u2_o (Or.inr (by decide))]; exact g5
        | succ n ih =>
          intro j v' hj hij f' s'
          have c' : v' 118 3 = nI (A.S.ps.length - 1) := by rw [s' 3, if_neg (by omega)]; exact c11
          rw [wl_X10_grows_52, c3, c', i7]
          refine ⟨i119 (n := 3) (by decide), fun z => absurd z (nI_ge (by omega) (by omega)), fun _ => ⟨?_, i119 (by omega), fun a6 e6 x4 hx4 => ?_⟩⟩
          · rw [show (2 : Int32) = nI 2 from rfl, nI_add]; exact i119 (by omega)
          · rw [show nI j + (2 : Int32) = nI (j + 2) by rw [show (2 : Int32) = nI 2 from rfl, nI_add], show (nI j).toNatClampNeg = j from nI_clamp (by omega), show (nI (j + 2)).toNatClampNeg = j + 2 from nI_clamp (by omega)] at e6
            rw [hx4, nI_1]
            refine ih (j + 1) a6 (by omega) (by omega) (fun a ha => by rw [e6, u2_ne ha]; exact f' a ha) (fun m => ?_)
            by_cases e : m = j
            · subst e
              rw [e6, u2_at, if_pos (by omega), s' (m + 2), if_neg (by omega)]
            · rw [e6, u2_o (Or.inr e), s' m]
              by_cases z : 7 + 2 * i ≤ m ∧ m < j
              · rw [if_pos z, if_pos (by omega)]
              · rw [if_neg z, if_neg (by omega)]
      exact loop (2 * (A.S.ps.length - 1 - i)) (7 + 2 * i) a11 (by omega) (Nat.le_refl _) (fun _ _ => rfl) (fun m => by rw [if_neg (by omega)])
theorem r_traps {v : MU} {A : Ab} {T : Tr} (hO : RO v A T) {x : Int32} {b : Bool} {Q : Int32 → MU → Prop} (hq : RRes A T Q (opTrap A.S x b)) : w_X10_traps x (bI b) v Q := by
  obtain ⟨h0, h1, h2, h3, h4, h5, h6⟩ := hO.2.1
  have hS := hO.1.1
  have hc := hO.c
  unfold opTrap at hq
  unfold w_X10_traps
  refine r_isBurrow hc hO.R (bI_br2 (fun e => ?_) (fun e => ?_))
  · rw [if_pos e] at hq
    exact r_refuses hO (by decide) hq
  · rw [if_neg (by rw [e]; decide)] at hq
    obtain ⟨hx, hxn⟩ := has_of hc e
    have hn := hS.1
    have hxn' : cl x < A.S.n := hxn
    have step : ∀ {P : Int32 → Prop}, P (bI (A.S.traps.testBit (cl x))) → w_X10_isTrap v x P := fun {P} hP => by
      have := r_isTrap hc hO.R (t := cl x) (by omega) hP
      rw [← hx] at this
      exact this
    refine step ⟨fun z => ?_, fun z => ?_⟩
    · rw [if_neg (fun e => z (by rw [e]))] at hq
      have ht : A.S.traps ^^^ 2 ^ cl x < 256 := Nat.xor_lt_two_pow (n := 8) hS.2.2.1 (Nat.pow_lt_pow_right (by decide) (by omega))
      refine r_endsGame (fun v4 f4 g4 g5 k4 => ⟨i119 (n := 1) (by decide), i119 (n := 1) (by decide), fun a11 e11 => ⟨i119 (n := 1) (by decide), ?_⟩⟩)
      rw [c1, k4 1 (by decide) (by decide), h1, show (1 : Int32) <<< (x &&& 31) = nI (2 ^ cl x) by rw [← tp_bit (cl x) (by omega), ← hx], fb_xorI] at e11
      have x1 : a11 118 1 = nI (A.S.traps ^^^ 2 ^ cl x) := by rw [e11, u2_at]
      rw [c1, x1]
      have f11 : ∀ a, a ≠ 118 → a11 a = v a := fun a ha => by rw [e11, u2_ne ha]; exact f4 a ha
      have sl : ∀ j, j ≠ 1 → j ≠ 4 → j ≠ 5 → a11 118 j = v 118 j := fun j a b d => by rw [e11, u2_o (Or.inr a)]; exact k4 j b d
      refine s_bitCountI ht (hq a11 (RO_now hO (R118 f11).1 (R118 f11).2 ⟨hn, hS.2.1, ht, hS.2.2.2.1, fun h p e => by cases e⟩ ⟨?_, x1, ?_, ?_, fun i q hi => ?_, ?_, ?_, ?_⟩))
      · rw [sl 0 (by decide) (by decide) (by decide)]; exact h0
      · rw [sl 2 (by decide) (by decide) (by decide)]; exact h2
      · rw [sl 3 (by decide) (by decide) (by decide)]; exact h3
      · rw [sl _ (by omega) (by omega) (by omega), sl _ (by omega) (by omega) (by omega)]; exact h4 i q hi
      · rw [sl 6 (by decide) (by decide) (by decide)]; exact h5
      · rw [e11, u2_o (Or.inr (by decide))]; exact g4
      · rw [e11, u2_o (Or.inr (by decide))]; exact g5
    · have e2 : A.S.traps.testBit (cl x) = b := by
        cases h1 : A.S.traps.testBit (cl x) <;> cases b <;> rw [h1] at z <;> first | rfl | exact absurd z (by decide +kernel)
      rw [if_pos e2] at hq
      exact r_refuses hO (by decide) hq
theorem r_flocks {v : MU} {A : Ab} {T : Tr} (hO : RO v A T) {x : Int32} {Q : Int32 → MU → Prop} (hq : RRes A T Q (opFlock A.S x)) : w_X10_flocks x v Q := by
  obtain ⟨h0, h1, h2, h3, h4, h5, h6⟩ := hO.2.1
  have hS := hO.1.1
  unfold opFlock at hq
  unfold w_X10_flocks w_X10_in
  refine ⟨fun z => ⟨fun z2 => absurd rfl z2, fun _ => ?_⟩, fun z => ⟨fun z2 => ⟨fun z3 => absurd rfl z3, fun _ => ?_⟩, fun z2 => ⟨fun _ => ?_, fun z3 => absurd z3 (by decide)⟩⟩⟩
  · rw [if_pos z] at hq
    exact r_refuses hO (by decide) hq
  · rw [if_neg z, if_pos z2] at hq
    exact r_refuses hO (by decide) hq
  · rw [if_neg z, if_neg z2] at hq
    rw [c2, h2]
    refine ⟨i119 (n := 2) (by decide), fun z3 => ?_, fun z3 => ?_⟩
    · rw [if_neg (fun e => z3 e.symm)] at hq
      have hx0 : ¬ x < 0 := fun z4 => z (fa_trans z4 (by decide))
      obtain ⟨g, hg, rfl⟩ := nI_of hx0
      rw [show cl (nI g) = g from nI_clamp hg] at hq
      have g1 : ¬ g < 1 := fun z4 => z (nI_lt (b := 1) z4 (by decide))
      have g2 : ¬ 2 < g := fun z4 => z2 (nI_lt (a := 2) z4 hg)
      have gne : A.S.geese ≠ g := fun e => z3 (by rw [e])
      have g3 := hS.2.1
      refine r_endsGame (fun v4 f4 g4 g5 k4 => ⟨i119 (n := 2) (by decide), fun a9 e9 => ?_⟩)
      have f9 : ∀ a, a ≠ 118 → a9 a = v a := fun a ha => by rw [e9, u2_ne ha]; exact f4 a ha
      have sl : ∀ j, j ≠ 2 → j ≠ 4 → j ≠ 5 → a9 118 j = v 118 j := fun j a b d => by rw [e9, u2_o (Or.inr a)]; exact k4 j b d
      rw [show (3 : Int32) - nI g = nI A.S.geese by rw [show (3 : Int32) = nI 3 from rfl, pk_sub (by omega)]; congr 1; omega]
      refine hq a9 (RO_now hO (R118 f9).1 (R118 f9).2 ⟨hS.1, by show g = 1 ∨ g = 2; omega, hS.2.2.1, hS.2.2.2.1, fun h p e => by cases e⟩ ⟨?_, ?_, ?_, ?_, fun i q hi => ?_, ?_, ?_, ?_⟩)
      · rw [sl 0 (by decide) (by decide) (by decide)]; exact h0
      · rw [sl 1 (by decide) (by decide) (by decide)]; exact h1
      · rw [e9, u2_at]; rfl
      · rw [sl 3 (by decide) (by decide) (by decide)]; exact h3
      · rw [sl _ (by omega) (by omega) (by omega), sl _ (by omega) (by omega) (by omega)]; exact h4 i q hi
      · rw [sl 6 (by decide) (by decide) (by decide)]; exact h5
      · rw [e9, u2_o (Or.inr (by decide))]; exact g4
      · rw [e9, u2_o (Or.inr (by decide))]; exact g5
    · rw [if_pos z3.symm] at hq
      exact r_refuses hO (by decide) hq
theorem NF_RIs {v v' : MU} {c : Cfg} (h : NF v v') (hR : RIs v c) : RIs v' c := by
  unfold RIs at hR ⊢
  rw [h 118 (by decide)]; exact hR
theorem r_begins {v : MU} {A : Ab} {T : Tr} (hO : RO v A T) {x : Int32} {Q : Int32 → MU → Prop} (hq : RRes A T Q (opBegin A.S x)) : w_X10_begins x v Q := by
  obtain ⟨h0, h1, h2, h3, h4, h5, h6⟩ := hO.2.1
  have hS := hO.1.1
  have hc := hO.c
  unfold opBegin at hq
  unfold w_X10_begins
  refine r_isPosition hc hO.R (bI_br2 (fun e => ?_) (fun e => ?_))
  · rw [if_pos e] at hq
    exact r_refuses hO (by decide) hq
  · rw [if_neg (by rw [e]; decide)] at hq
    obtain ⟨p, rfl, hp2, hp⟩ := posI_of e
    rw [show cl (nI p) = p from nI_clamp (by omega)] at hq
    refine r_nears hS hO.2.1 (fun v5 f5 n5 => ⟨i119 (n := 4) (by decide), fun a7 e7 => ⟨i119 (n := 5) (by decide), fun a9 e9 => ⟨i119 (n := 6) (by decide), i119 (n := 6) (by decide), fun a12 e12 => ?_⟩⟩⟩)
    rw [c4] at e7
    rw [c5] at e9
    rw [c6] at e12
    have x6 : a9 118 6 = A.S.begun := by rw [e9, u2_o (Or.inr (by decide)), e7, u2_o (Or.inr (by decide)), f5 118 (by decide)]; exact h5
    rw [x6] at e12
    rw [nI_1] at e7
    have f12 : ∀ a, a ≠ 118 → a12 a = v5 a := fun a ha => by rw [e12, u2_ne ha, e9, u2_ne ha, e7, u2_ne ha]
    have sl : ∀ j, j ≠ 4 → j ≠ 5 → j ≠ 6 → a12 118 j = v 118 j := fun j a b d => by rw [e12, u2_o (Or.inr d), e9, u2_o (Or.inr b), e7, u2_o (Or.inr a), f5 118 (by decide)]
    have x4 : a12 118 4 = nI (p + 1) := by rw [e12, u2_o (Or.inr (by decide)), e9, u2_o (Or.inr (by decide)), e7, u2_at]
    have x5 : a12 118 5 = 0 := by rw [e12, u2_o (Or.inr (by decide)), e9, u2_at]
    have x6' : a12 118 6 = A.S.begun + 1 := by rw [e12, u2_at]
    have R12 : RIs a12 A.S.cfg := ⟨by rw [sl 0 (by decide) (by decide) (by decide)]; exact h0, by rw [sl 1 (by decide) (by decide) (by decide)]; exact h1, by rw [sl 2 (by decide) (by decide) (by decide)]; exact h2⟩
    have N12 : RNear a12 A.S.cfg := fun b hb => by rw [f12 125 (by decide)]; exact n5 b hb
    refine r_finds hc R12 N12 hp (fun v' f' l' => ?_)
    rw [l'.1]
    have O12 : RO a12 (A.setS (mkS A.S.n A.S.traps A.S.geese A.S.ps (some ([], p)) (A.S.begun + 1))) T := by
      refine RO_now hO (fun j _ _ _ => by rw [f12 117 (by decide), f5 117 (by decide)]) (fun a _ h8 h4 => by rw [f12 a h8, f5 a (by omega)]) ⟨hS.1, hS.2.1, hS.2.2.1, hS.2.2.2.1, fun h q e => by cases e; exact ⟨Nat.zero_le _, hp, fun _ h => absurd h List.not_mem_nil⟩⟩ ⟨R12.1, R12.2.1, R12.2.2, ?_, fun i q hi => ?_, x6', x4, x5, fun i q h => by simp at h⟩
      · rw [sl 3 (by decide) (by decide) (by decide)]; exact h3
      · rw [sl _ (by omega) (by omega) (by omega), sl _ (by omega) (by omega) (by omega)]; exact h4 i q hi
    exact hq v' ((FR_OF f').ro O12)
theorem r_takesBack {v : MU} {A : Ab} {T : Tr} (hO : RO v A T) {Q : Int32 → MU → Prop} (hq : RRes A T Q (opBack A.S)) : w_X10_takesBack v Q := by
  obtain ⟨h0, h1, h2, h3, h4, h5, h6⟩ := hO.2.1
  have hS := hO.1.1
  unfold opBack at hq
  unfold w_X10_takesBack
  rw [c4]
  cases hg : A.S.game with
  | none =>
    rw [hg] at hq h6
    exact ⟨i119 (n := 4) (by decide), fun z => absurd h6.1 z, fun _ => r_refuses hO (by decide) hq⟩
  | some z =>
    obtain ⟨h, p⟩ := z
    rw [hg] at hq h6
    obtain ⟨k1, k2, k3⟩ := hS.2.2.2.2 h p hg
    obtain ⟨g1, g2, g3⟩ := h6
    have hp2 := (posB_spec.mp k2).1
    rw [c5, g1, g2]
    refine ⟨i119 (n := 4) (by decide), fun _ => ⟨i119 (n := 5) (by decide), fun z => ⟨i119 (n := 5) (by decide), i119 (n := 5) (by decide), fun a7 e7 => ⟨i119 (n := 5) (by decide), ?_⟩⟩, fun z => ?_⟩, fun z => absurd z (nI_ne0 (by omega) (by omega))⟩
    · have hh0 : h.length ≠ 0 := fun e => z (by rw [e]; rfl)
      have hlast : h.getLast? = h[h.length - 1]? := List.getLast?_eq_getElem?
      have hget : h[h.length - 1]? = some h[h.length - 1] := List.getElem?_eq_getElem (by omega)
      simp only [hlast, hget] at hq
      generalize h[h.length - 1] = q at hq hget
      rw [nI_pr (by omega)] at e7
      obtain ⟨q1, q2⟩ := k3 q (List.mem_of_getElem? hget)
      have x5 : a7 118 5 = nI (h.length - 1) := by rw [e7, u2_at]
      have i39 : (39 : Int32) + nI (h.length - 1) = nI (39 + (h.length - 1)) := by rw [show (39 : Int32) = nI 39 from rfl, nI_add]
      rw [x5, i39, show (nI (39 + (h.length - 1))).toNatClampNeg = 39 + (h.length - 1) from nI_clamp (by omega)]
      refine ⟨i119 (by omega), i119 (n := 4) (by decide), fun a11 e11 => ⟨i119 (n := 5) (by decide), ?_⟩⟩
      have x39 : a7 118 (39 + (h.length - 1)) = nI q.1 := by rw [e7, u2_o (Or.inr (by omega))]; exact (g3 _ q hget).1
      rw [x39, nI_1] at e11
      have x5' : a11 118 5 = nI (h.length - 1) := by rw [e11, u2_o (Or.inr (by decide))]; exact x5
      rw [x5']
      have f11 : ∀ a, a ≠ 118 → a11 a = v a := fun a ha => by rw [e11, u2_ne ha, e7, u2_ne ha]
      have sl : ∀ j, j ≠ 4 → j ≠ 5 → a11 118 j = v 118 j := fun j a b => by rw [e11, u2_o (Or.inr a), e7, u2_o (Or.inr b)]
      refine hq a11 (RO_now hO (R118 f11).1 (R118 f11).2 ⟨hS.1, hS.2.1, hS.2.2.1, hS.2.2.2.1, fun h' p' e => by cases e; exact ⟨by rw [List.length_dropLast]; omega, q1, fun z2 hz2 => k3 z2 ((List.dropLast_sublist h).mem hz2)⟩⟩ ⟨?_, ?_, ?_, ?_, fun i q hi => ?_, ?_, ?_, ?_, fun i q' hi => ?_⟩)
      · rw [sl 0 (by decide) (by decide)]; exact h0
      · rw [sl 1 (by decide) (by decide)]; exact h1
      · rw [sl 2 (by decide) (by decide)]; exact h2
      · rw [sl 3 (by decide) (by decide)]; exact h3
      · rw [sl _ (by omega) (by omega), sl _ (by omega) (by omega)]; exact h4 i q hi
      · rw [sl 6 (by decide) (by decide)]; exact h5
      · rw [e11, u2_at]
      · rw [x5', List.length_dropLast]
      · have hil := (List.getElem?_eq_some_iff.mp hi).1
        rw [List.length_dropLast] at hil
        rw [List.getElem?_dropLast, if_pos hil] at hi
        rw [sl _ (by omega) (by omega), sl _ (by omega) (by omega)]
        exact g3 i q' hi
    · have hh0 : h.length = 0 := (nI_eq (b := 0) (by omega) (by decide)).mp z
      have he : h = [] := List.length_eq_zero_iff.mp hh0
      rw [he] at hq
      exact r_refuses hO (by decide) hq
