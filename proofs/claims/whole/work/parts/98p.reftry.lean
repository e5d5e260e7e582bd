/-! the reference tries, keeps, brings back -/
/-- what a call of the reference leaves -/
def MPost (k : Ans) (Q : Int32 → MU → Prop) : Prop := ∀ v' r, RI v' k.2.2 → v' 117 17 = nI k.1 → (k.1 = 0 → r = k.2.1) → Q r v'
theorem r_tries {v : MU} {A : Ab} (hI : RI v A) {Q : MU → Prop} (hq : ∀ v', RO v' A (A.S, v 117 10) → Q v') : w_X10_tries v Q := by
  obtain ⟨o1, o2, o3, o4⟩ := hI
  unfold w_X10_tries
  intro a1 e1 a2 e2
  have f2 : ∀ a, a ≠ 117 → a2 a = v a := fun a ha => by rw [e2, u2_ne ha, e1, u2_ne ha]
  have s2 : ∀ j, j ≠ 17 → j ≠ 22 → a2 117 j = v 117 j := fun j h1 h2 => by rw [e2, u2_o (Or.inr h2), e1, u2_o (Or.inr h1)]
  have loop : ∀ (n i : Nat) (v' : MU), i + n = 119 → (∀ a, a ≠ 119 → v' a = a2 a) → (∀ m, m < i → v' 119 m = v 118 m) → wl_X10_tries_12 Q (n + 1) (nI i) v' := by
    intro n
    induction n with
    | zero =>
      intro i v' hi f' s'
      rw [wl_X10_tries_12]
      refine ⟨fun _ => ?_, fun z => absurd (nI_le (a := 119) (by omega) (by omega)) z⟩
      have x22 : v' 117 22 = 0 := by rw [f' 117 (by decide), e2, u2_at]
      have x17 : v' 117 17 = 0 := by rw [f' 117 (by decide), e2, u2_o (Or.inr (by decide)), e1, u2_at]
      exact hq v' ⟨o1, by rw [f' 118 (by decide), f2 118 (by decide)]; exact o2, RMem_of (fun j _ _ h3 h4 _ => by rw [f' 117 (by decide)]; exact s2 j h3 h4) (fun a ha hb => by rw [f' a (by omega), f2 a (by omega)]) o3, x22, x17, RwIs_of o1.1 (fun m hm => s' m (by omega)) o2, by rw [f' 117 (by decide)]; exact s2 10 (by decide) (by decide)⟩
    | succ n ih =>
      intro i v' hi f' s'
      rw [wl_X10_tries_12]
      refine ⟨fun z => absurd z (nI_ge (b := 119) (by omega) (by decide)), fun _ => ⟨i119 (by omega), i119 (by omega), fun a4 e4 x1 hx1 => ?_⟩⟩
      rw [nI_clamp (by omega)] at e4
      rw [hx1, nI_1]
      refine ih (i + 1) a4 (by omega) (fun a ha => by rw [e4, u2_ne ha]; exact f' a ha) (fun m hm => ?_)
      by_cases e : m = i
      · rw [e4, e, u2_at, f' 118 (by decide), f2 118 (by decide)]
      · rw [e4, u2_o (Or.inr e)]; exact s' m (by omega)
  exact ⟨120, loop 119 0 a2 rfl (fun _ _ => rfl) (fun m hm => by omega)⟩
theorem RO_RI {v v' : MU} {A : Ab} {T : Tr} (hO : RO v A T) (h1 : ∀ j, j ≠ 17 → v' 117 j = v 117 j) (h2 : ∀ a, a ≠ 117 → v' a = v a) : RI v' A := by
  obtain ⟨o1, o2, o3, o4, o5, o6⟩ := hO
  exact ⟨o1, by rw [h2 118 (by decide)]; exact o2, RMem_of (fun j _ _ h3 _ _ => h1 j h3) (fun a ha hb => h2 a (by omega)) o3, Or.inl (by rw [h1 22 (by decide)]; exact o4)⟩
theorem i119m (a b : Nat) : (119 : Int32) * nI a + nI b = nI (119 * a + b) := by rw [show (119 : Int32) = nI 119 from rfl, pk_mul, nI_add]
theorem r_keeps {v : MU} {A : Ab} {T : Tr} (hO : RO v A T) (hT : StOk T.1) {x : Int32} {Q : Int32 → MU → Prop} (hx : 0 ≤ x) (hq : ∀ v', RI v' (A.keep T.1) → v' 117 17 = 0 → Q x v') : w_X10_keeps x v Q := by
  obtain ⟨o1, o2, o3, o4, o5, o6⟩ := hO
  obtain ⟨m1, m2, m3, m4, m5, m6, m7, m8, m9⟩ := o3
  have hl8 := o1.2.2.1
  unfold w_X10_keeps
  -- the last row is written
  have last : ∀ (h : List St) (v1 : MU), h.length < 8 → (if A.hist.length = 8 then A.hist.tail else A.hist) = h → (∀ a, a ≠ 117 → a ≠ 120 → v1 a = v a) → (∀ j, j ≠ 3 → v1 117 j = v 117 j) → v1 117 3 = nI h.length → (∀ (j : Nat) S, h[j]? = some S → RwIs (fun i => v1 120 (119 * j + i)) S) → wb_X10_keeps_59 Q x v1 := fun h v1 hl hh f1 s1 c1 r1 => by
    have hp : push A.hist T.1 = h ++ [T.1] := by unfold push; rw [hh]
    have loop : ∀ (n i : Nat) (v' : MU), i + n = 119 → (∀ a, a ≠ 120 → v' a = v1 a) → (∀ m, v' 120 m = if 119 * h.length ≤ m ∧ m < 119 * h.length + i then v 119 (m - 119 * h.length) else v1 120 m) → wl_X10_keeps_61 Q (n + 1) x (nI i) v' := by
      intro n
      induction n with
      | zero =>
        intro i v' hi f' s'
        rw [wl_X10_keeps_61]
        refine ⟨fun _ a2 e2 => ?_, fun z => absurd (nI_le (a := 119) (by omega) (by omega)) z⟩
        rw [f' 117 (by decide), c1, nI_1] at e2
        have fr : ∀ a, a ≠ 117 → a ≠ 120 → a2 a = v a := fun a h1 h2 => by rw [e2, u2_ne h1, f' a h2]; exact f1 a h1 h2
        have sl : ∀ j, j ≠ 3 → a2 117 j = v 117 j := fun j hj => by rw [e2, u2_o (Or.inr hj), f' 117 (by decide)]; exact s1 j hj
        have r120 : ∀ m, a2 120 m = v' 120 m := fun m => by rw [e2, u2_ne (by decide)]
        have x17 : a2 117 17 = 0 := by rw [sl 17 (by decide)]; exact o5
        refine hq a2 ⟨⟨o1.1, o1.2.1, (push_len hl8 T.1).1, fun S hS => ?_, o1.2.2.2.2⟩, by rw [fr 118 (by decide) (by decide)]; exact o2, ⟨by rw [sl 13 (by decide)]; exact m1, ?_, ?_, fun j S hj => ?_, by rw [sl 9 (by decide)]; exact m5, by rw [fr 123 (by decide) (by decide)]; exact m6, by rw [sl 7 (by decide)]; exact m7, by rw [fr 122 (by decide) (by decide)]; exact m8, ?_⟩, Or.inl (by rw [sl 22 (by decide)]; exact o4)⟩ x17
        · rcases push_mem hS with z | z
          · exact o1.2.2.2.1 S z
          · rw [z]; exact hT
        · show RSv a2 A.sv
          unfold RSv at m2 ⊢
          rw [sl 5 (by decide), fr 121 (by decide) (by decide)]
          exact m2
        · show a2 117 3 = nI (push A.hist T.1).length
          rw [e2, u2_at, hp, List.length_append]; rfl
        · have hj' : (push A.hist T.1)[j]? = some S := hj
          rw [hp] at hj'
          rcases Nat.lt_or_ge j h.length with z | z
          · rw [List.getElem?_append_left z] at hj'
            have hSo : StOk S := by
              have := List.mem_of_getElem? hj'
              rw [← hh] at this
              split at this
              · exact o1.2.2.2.1 S (List.mem_of_mem_tail this)
              · exact o1.2.2.2.1 S this
            refine RwIs_of hSo (fun i hi2 => ?_) (r1 j S hj')
            show a2 120 (119 * j + i) = v1 120 (119 * j + i)
            rw [r120, s', if_neg (by omega)]
          · have hjl := (List.getElem?_eq_some_iff.mp hj').1
            rw [List.length_append, List.length_singleton] at hjl
            have hj2 : j = h.length := by omega
            subst hj2
            rw [List.getElem?_append_right (Nat.le_refl _), Nat.sub_self, List.getElem?_cons_zero] at hj'
            cases hj'
            refine RwIs_of hT (fun i hi2 => ?_) o6.1
            show a2 120 (119 * h.length + i) = v 119 i
            rw [r120, s', if_pos (by omega), show 119 * h.length + i - 119 * h.length = i by omega]
        · show RWy a2 A.why
          unfold RWy at m9 ⊢
          rw [sl 14 (by decide), sl 15 (by decide), sl 16 (by decide)]
          exact m9
      | succ n ih =>
        intro i v' hi f' s'
        rw [wl_X10_keeps_61]
        rw [f' 117 (by decide), c1, i119m]
        refine ⟨fun z => absurd z (nI_ge (b := 119) (by omega) (by decide)), fun _ => ⟨i119 (by omega), vp_in_nI (by omega) (by decide), fun a5 e5 x2 hx2 => ?_⟩⟩
        rw [show (nI i).toNatClampNeg = i from nI_clamp (by omega), show (nI (119 * h.length + i)).toNatClampNeg = 119 * h.length + i from nI_clamp (by omega)] at e5
        rw [hx2, nI_1]
        refine ih (i + 1) a5 (by omega) (fun a ha => by rw [e5, u2_ne ha]; exact f' a ha) (fun m => ?_)
        by_cases e : m = 119 * h.length + i
        · rw [e5, e, u2_at, if_pos (by omega), f' 119 (by decide), f1 119 (by decide) (by decide), show 119 * h.length + i - 119 * h.length = i by omega]
        · rw [e5, u2_o (Or.inr e), s' m]
          by_cases z : 119 * h.length ≤ m ∧ m < 119 * h.length + i
          · rw [if_pos z, if_pos (by omega)]
          · rw [if_neg z, if_neg (by omega)]
    unfold wb_X10_keeps_59
    exact ⟨120, loop 119 0 v1 rfl (fun _ _ => rfl) (fun m => by rw [if_neg (by omega)])⟩
  rw [m3]
  refine ⟨fun _ => ⟨fun z => ?_, fun z => ⟨834, ?_⟩⟩, fun z => absurd hx z⟩
  · have e : ¬ A.hist.length = 8 := fun e => z (by rw [e]; rfl)
    exact last A.hist v (by omega) (if_neg e) (fun _ _ _ => rfl) (fun _ _ => rfl) m3 m4
  · have e : A.hist.length = 8 := (nI_eq (b := 8) (by omega) (by decide)).mp z
    have loop : ∀ (n i : Nat) (v' : MU), i + n = 833 → (∀ a, a ≠ 120 → v' a = v a) → (∀ m, v' 120 m = if m < i then v 120 (119 + m) else v 120 m) → wl_X10_keeps_21 Q (n + 1) x (nI i) v' := by
      intro n
      induction n with
      | zero =>
        intro i v' hi f' s'
        rw [wl_X10_keeps_21]
        refine ⟨fun _ a2 e2 => ?_, fun z => absurd (nI_le (a := 833) (by omega) (by omega)) z⟩
        have x3 : v' 117 3 = nI 8 := by rw [f' 117 (by decide), m3, e]
        rw [x3, nI_pr (by decide)] at e2
        have tl : A.hist.tail.length = 7 := by rw [List.length_tail, e]
        refine last A.hist.tail a2 (by omega) (if_pos e) (fun a h1 h2 => by rw [e2, u2_ne h1]; exact f' a h2) (fun j hj => by rw [e2, u2_o (Or.inr hj), f' 117 (by decide)]) (by rw [e2, u2_at, tl]) (fun j S hj => ?_)
        have hjl := (List.getElem?_eq_some_iff.mp hj).1
        rw [tl] at hjl
        rw [List.getElem?_tail] at hj
        refine RwIs_of (o1.2.2.2.1 S (List.mem_of_getElem? hj)) (fun i' hi' => ?_) (m4 (j + 1) S hj)
        show a2 120 (119 * j + i') = v 120 (119 * (j + 1) + i')
        rw [e2, u2_ne (by decide), s', if_pos (by omega)]
        congr 1; omega
      | succ n ih =>
        intro i v' hi f' s'
        rw [wl_X10_keeps_21]
        rw [show (119 : Int32) + nI i = nI (119 + i) by rw [show (119 : Int32) = nI 119 from rfl, nI_add]]
        refine ⟨fun z => absurd z (nI_ge (b := 833) (by omega) (by decide)), fun _ => ⟨vp_in_nI (by omega) (by decide), vp_in_nI (by omega) (by decide), fun a5 e5 x2 hx2 => ?_⟩⟩
        rw [show (nI i).toNatClampNeg = i from nI_clamp (by omega), show (nI (119 + i)).toNatClampNeg = 119 + i from nI_clamp (by omega)] at e5
        rw [hx2, nI_1]
        refine ih (i + 1) a5 (by omega) (fun a ha => by rw [e5, u2_ne ha]; exact f' a ha) (fun m => ?_)
        by_cases e3 : m = i
        · subst e3
          rw [e5, u2_at, if_pos (by omega), s' (119 + m), if_neg (by omega)]
        · rw [e5, u2_o (Or.inr e3), s' m]
          by_cases z3 : m < i
          · rw [if_pos z3, if_pos (by omega)]
          · rw [if_neg z3, if_neg (by omega)]
    exact loop 833 0 v rfl (fun _ _ => rfl) (fun m => by rw [if_neg (by omega)])
theorem MPost.ret {v : MU} {x : Int32} {A : Ab} {k : Ans} {Q : Int32 → MU → Prop} (hq : MPost k Q) (hk : k = (0, (x, A))) (hI : RI v A) (h17 : v 117 17 = 0) : Q x v := by
  subst hk
  exact hq v x hI h17 (fun _ => rfl)
theorem MPost.exc {v : MU} {x y : Int32} {A : Ab} {k : Ans} {j : Nat} {Q : Int32 → MU → Prop} (hq : MPost k Q) (hk : k = (j + 1, (y, A))) (hI : RI v A) (h17 : v 117 17 = nI (j + 1)) : Q x v := by
  subst hk
  exact hq v x hI h17 (fun z => by omega)
theorem r_raises {v : MU} {y : Int32} {A : Ab} {k : Ans} {j : Nat} {Q : Int32 → MU → Prop} (hq : MPost k Q) (hk : k = (j + 1, (y, A))) (hI : ∀ v', (∀ i, i ≠ 17 → v' 117 i = v 117 i) → (∀ a, a ≠ 117 → v' a = v a) → RI v' A) : w_X10_raises (nI (j + 1)) v (fun r u => Q r u) := by
  unfold w_X10_raises
  intro a1 e1
  exact MPost.exc hq hk (hI a1 (fun i hi => by rw [e1]; exact u2_o (Or.inr hi)) (fun a ha => by rw [e1]; exact u2_ne ha)) (by rw [e1, u2_at])
theorem RI_17 {v v' : MU} {A : Ab} (hI : RI v A) (h1 : ∀ i, i ≠ 17 → v' 117 i = v 117 i) (h2 : ∀ a, a ≠ 117 → v' a = v a) : RI v' A := by
  obtain ⟨o1, o2, o3, o4⟩ := hI
  refine ⟨o1, by rw [h2 118 (by decide)]; exact o2, RMem_of (fun j _ _ h3 _ _ => h1 j h3) (fun a ha hb => h2 a (by omega)) o3, ?_⟩
  rw [h1 22 (by decide)]
  rcases o4 with z | ⟨z, z2⟩
  · exact Or.inl z
  · exact Or.inr ⟨z, fun q hq => by rw [h2 126 (by decide), h2 127 (by decide)]; exact z2 q hq⟩
theorem M_change {v : MU} {A : Ab} {wop : MU → (Int32 → MU → Prop) → Prop} {r : Rs} (hop : ∀ v Q (T : Tr), RO v A T → RRes A T Q r → wop v Q) (hr : ∀ a S, r = .inr (a, S) → a < 2 ^ 31) (hI : RI v A) {Q : Int32 → MU → Prop} (hq : MPost (a_change A r) Q) :
    w_X10_tries v (fun u_2 => wop u_2 (fun r_3 u_4 => w_X10_keeps r_3 u_4 (fun r_5 u_6 => Q r_5 u_6))) := by
  have hS := hI.1.1
  refine r_tries hI (fun v2 o2 => hop v2 _ _ o2 ?_)
  cases r with
  | inl z =>
    obtain ⟨w, d⟩ := z
    intro v4 o4
    unfold w_X10_keeps
    refine ⟨fun z => absurd z (by decide), fun _ => ?_⟩
    exact r_raises (j := 0) hq rfl (fun v' h1 h2 => RO_RI o4 h1 h2)
  | inr z =>
    obtain ⟨a, S⟩ := z
    intro v4 o4
    exact r_keeps o4 hS (nI_pos' (hr a S rfl)) (fun v6 i6 h17 => MPost.ret hq rfl i6 h17)
theorem M_dig {v : MU} {A : Ab} {Q : Int32 → MU → Prop} (hI : RI v A) (hq : MPost (a_change A (opDig A.S)) Q) : w_X10_dig v Q := by
  unfold w_X10_dig
  exact M_change (wop := fun u Q => w_X10_digs u Q) (fun v Q T o h => r_digs o h) (fun a S h => dig_lt hI.1.1 h) hI hq
theorem M_tread {v : MU} {A : Ab} {x y : Int32} {Q : Int32 → MU → Prop} (hI : RI v A) (hq : MPost (a_change A (opTread A.S x y)) Q) : w_X10_tread x y v Q := by
  unfold w_X10_tread
  exact M_change (wop := fun u Q => w_X10_treads x y u Q) (fun v Q T o h => r_treads o h) (fun a S h => tread_lt hI.1.1 h) hI hq
theorem M_grow {v : MU} {A : Ab} {x y : Int32} {Q : Int32 → MU → Prop} (hI : RI v A) (hq : MPost (a_change A (opGrow A.S x y)) Q) : w_X10_grow x y v Q := by
  unfold w_X10_grow
  exact M_change (wop := fun u Q => w_X10_grows x y u Q) (fun v Q T o h => r_grows o h) (fun a S h => grow_lt hI.1.1 h) hI hq
theorem M_trap {v : MU} {A : Ab} {x : Int32} {b : Bool} {Q : Int32 → MU → Prop} (hI : RI v A) (hq : MPost (a_change A (opTrap A.S x b)) Q) : w_X10_trap x (bI b) v Q := by
  unfold w_X10_trap
  exact M_change (wop := fun u Q => w_X10_traps x (bI b) u Q) (fun v Q T o h => r_traps o h) (fun a S h => trap_lt h) hI hq
theorem M_flock {v : MU} {A : Ab} {x : Int32} {Q : Int32 → MU → Prop} (hI : RI v A) (hq : MPost (a_change A (opFlock A.S x)) Q) : w_X10_flock x v Q := by
  unfold w_X10_flock
  exact M_change (wop := fun u Q => w_X10_flocks x u Q) (fun v Q T o h => r_flocks o h) (fun a S h => flock_lt hI.1.1 h) hI hq
theorem M_begin {v : MU} {A : Ab} {x : Int32} {Q : Int32 → MU → Prop} (hI : RI v A) (hq : MPost (a_change A (opBegin A.S x)) Q) : w_X10_begin x v Q := by
  unfold w_X10_begin
  exact M_change (wop := fun u Q => w_X10_begins x u Q) (fun v Q T o h => r_begins o h) (fun a S h => begin_lt h) hI hq
theorem M_move {v : MU} {A : Ab} {x y : Int32} {Q : Int32 → MU → Prop} (hI : RI v A) (hq : MPost (a_change A (opMove A.S x y)) Q) : w_X10_move x y v Q := by
  unfold w_X10_move
  exact M_change (wop := fun u Q => w_X10_goes x y u Q) (fun v Q T o h => r_goes o h) (fun a S h => move_lt h) hI hq
theorem M_play {v : MU} {A : Ab} {x : Int32} {Q : Int32 → MU → Prop} (hI : RI v A) (hq : MPost (a_change A (opPlay A.S x)) Q) : w_X10_play x v Q := by
  unfold w_X10_play
  exact M_change (wop := fun u Q => w_X10_plays x u Q) (fun v Q T o h => r_plays o h) (fun a S h => play_lt h) hI hq
theorem M_back {v : MU} {A : Ab} {Q : Int32 → MU → Prop} (hI : RI v A) (hq : MPost (a_change A (opBack A.S)) Q) : w_X10_back v Q := by
  unfold w_X10_back
  exact M_change (wop := fun u Q => w_X10_takesBack u Q) (fun v Q T o h => r_takesBack o h) (fun a S h => back_lt hI.1.1 h) hI hq
