/-! A BLOCK OF THE CLASS shows a state -/
def GIs (u : MU) (k : Nat) (g : Option Gm) : Prop := match g with
  | none => u k 0 = 0
  | some (h, p) => u k 0 = 1 ∧ u k 1 = nI h.length ∧ u (k + 1) h.length = nI p ∧ ∀ (i : Nat) q, h[i]? = some q → u (k + 1) i = nI q.1 ∧ u (k + 2) i = nI q.2
def BIs (u : MU) (k : Nat) (S : St) : Prop := FIs u (k + 1) S.cfg ∧ u (k + 1) 1 = nI S.ps.length ∧ (∀ (i : Nat) q, S.ps[i]? = some q → u (k + 2) i = nI q.1 ∧ u (k + 3) i = nI q.2) ∧ u k 2 = S.begun ∧ GIs u (k + 5) S.game
theorem GIs_of {u u' : MU} {k : Nat} {g : Option Gm} (h : ∀ a, k ≤ a → a ≤ k + 2 → u' a = u a) (hG : GIs u k g) : GIs u' k g := by
  unfold GIs at hG ⊢
  rw [h k (by omega) (by omega), h (k + 1) (by omega) (by omega), h (k + 2) (by omega) (by omega)]
  exact hG
theorem FIs_of {u u' : MU} {k : Nat} {c : Cfg} (h : u' k = u k) (h3 : u' (k + 3) = u (k + 3)) (hF : FIs u k c) : FIs u' k c := by
  unfold FIs at hF ⊢
  rw [h, h3]
  exact hF
theorem BIs_of {u u' : MU} {k : Nat} {S : St} (h : ∀ a, k ≤ a → a ≤ k + 7 → u' a = u a) (hB : BIs u k S) : BIs u' k S := by
  obtain ⟨h1, h2, h3, h4, h5⟩ := hB
  refine ⟨FIs_of (h _ (by omega) (by omega)) (h _ (by omega) (by omega)) h1, ?_, ?_, ?_, GIs_of (fun a ha hb => h a (by omega) (by omega)) h5⟩
  · rw [h (k + 1) (by omega) (by omega)]; exact h2
  · rw [h (k + 2) (by omega) (by omega), h (k + 3) (by omega) (by omega)]; exact h3
  · rw [h k (by omega) (by omega)]; exact h4
/-- the version of a block tells its configuration -/
def VIs (V : Nat → Cfg) (W : Nat) (u : MU) (k : Nat) (c : Cfg) : Prop := ∃ w, w ≤ W ∧ u (k + 1) 4 = nI w ∧ V w = c
def Vx (V : Nat → Cfg) (W : Nat) (V' : Nat → Cfg) (W' : Nat) : Prop := W ≤ W' ∧ ∀ w, w ≤ W → V' w = V w
theorem Vx.rf (V : Nat → Cfg) (W : Nat) : Vx V W V W := ⟨Nat.le_refl _, fun _ _ => rfl⟩
theorem Vx.tr {V V' V'' : Nat → Cfg} {W W' W'' : Nat} (h1 : Vx V W V' W') (h2 : Vx V' W' V'' W'') : Vx V W V'' W'' := ⟨Nat.le_trans h1.1 h2.1, fun w hw => (h2.2 w (Nat.le_trans hw h1.1)).trans (h1.2 w hw)⟩
theorem VIs_of {V V' : Nat → Cfg} {W W' : Nat} {u u' : MU} {k : Nat} {c : Cfg} (hx : Vx V W V' W') (h : u' (k + 1) 4 = u (k + 1) 4) (hV : VIs V W u k c) : VIs V' W' u' k c := by
  obtain ⟨w, h1, h2, h3⟩ := hV
  exact ⟨w, Nat.le_trans h1 hx.1, h.trans h2, (hx.2 w h1).trans h3⟩
/-! a block becomes another one -/
theorem s_copy {u : MU} {k0 k1 N : Nat} (h0 : zln k0 = N) (h1 : zln k1 = N) (hN : N < 2 ^ 31) {Q : MU → Prop} (hq : ∀ u', OnlyR k1 u u' → (∀ j, j < N → u' k1 j = u k0 j) → Q u') : w_X9_copy k0 k1 u Q := by
  unfold w_X9_copy
  rw [h0, h1]
  have e : (if Int32.ofNat N < Int32.ofNat N then Int32.ofNat N else Int32.ofNat N) = nI N := by split <;> rfl
  rw [e, nI_clamp hN]
  refine ⟨⟨nI_pos hN, Nat.le_refl _, Nat.le_refl _⟩, fun u' hu => hq u' (fun a ha => by rw [hu]; exact u1_ne ha) (fun j hj => ?_)⟩
  rw [hu, u1_same]
  unfold va_cpy
  rw [if_pos ⟨Nat.zero_le _, by omega⟩, Nat.sub_zero, Nat.zero_add]
theorem s_fieldBecome {u : MU} {k0 k1 : Nat} (h0 : zkd k0 = 3) (h1 : zkd k1 = 3) (hd : k0 + 3 < k1 ∨ k1 + 3 < k0) {Q : MU → Prop} (hq : ∀ u', (∀ a, (a < k0 ∨ k0 + 3 < a) → u' a = u a) → (∀ j, j < 5 → u' k0 j = u k1 j) → (∀ j, j < 16 → u' (k0 + 1) j = u (k1 + 1) j) → (∀ j, j < 16 → u' (k0 + 2) j = u (k1 + 2) j) → (∀ j, j < 8 → u' (k0 + 3) j = u (k1 + 3) j) → Q u') : w_X1_become k0 k1 u Q := by
  unfold w_X1_become
  intro a1 e1 a2 e2 a3 e3 a4 e4 a5 e5
  have r1 : a1 k1 = u k1 := by rw [e1]; exact u2_ne (by omega)
  have r2 : a2 k1 = u k1 := by rw [e2, u2_ne (by omega)]; exact r1
  have r3 : a3 k1 = u k1 := by rw [e3, u2_ne (by omega)]; exact r2
  have r4 : a4 k1 = u k1 := by rw [e4, u2_ne (by omega)]; exact r3
  have fr : ∀ a, a ≠ k0 → a5 a = u a := fun a ha => by rw [e5, u2_ne ha, e4, u2_ne ha, e3, u2_ne ha, e2, u2_ne ha, e1, u2_ne ha]
  have sl : ∀ j, j < 5 → a5 k0 j = u k1 j := fun j hj => by
    rcases (show j = 0 ∨ j = 1 ∨ j = 2 ∨ j = 3 ∨ j = 4 by omega) with h | h | h | h | h <;> subst h
    · rw [e5, u2_o (Or.inr (by decide)), e4, u2_o (Or.inr (by decide)), e3, u2_o (Or.inr (by decide)), e2, u2_o (Or.inr (by decide)), e1, u2_at]
    · rw [e5, u2_o (Or.inr (by decide)), e4, u2_o (Or.inr (by decide)), e3, u2_o (Or.inr (by decide)), e2, u2_at, r1]
    · rw [e5, u2_o (Or.inr (by decide)), e4, u2_o (Or.inr (by decide)), e3, u2_at, r2]
    · rw [e5, u2_o (Or.inr (by decide)), e4, u2_at, r3]
    · rw [e5, u2_at, r4]
  refine s_copy (zl3_1 h1) (zl3_1 h0) (by decide) (fun u7 o7 c7 => s_copy (zl3_2 h1) (zl3_2 h0) (by decide) (fun u9 o9 c9 => s_copy (zl3_3 h1) (zl3_3 h0) (by decide) (fun u11 o11 c11 => ?_)))
  refine hq u11 (fun a ha => ?_) (fun j hj => ?_) (fun j hj => ?_) (fun j hj => ?_) (fun j hj => ?_)
  · rw [o11 a (by omega), o9 a (by omega), o7 a (by omega), fr a (by omega)]
  · rw [o11 k0 (by omega), o9 k0 (by omega), o7 k0 (by omega)]; exact sl j hj
  · rw [o11 (k0 + 1) (by omega), o9 (k0 + 1) (by omega), c7 j hj, fr (k1 + 1) (by omega)]
  · rw [o11 (k0 + 2) (by omega), c9 j hj, o7 (k1 + 2) (by omega), fr (k1 + 2) (by omega)]
  · rw [c11 j hj, o9 (k1 + 3) (by omega), o7 (k1 + 3) (by omega), fr (k1 + 3) (by omega)]
theorem s_gameBecome {u : MU} {k0 k1 : Nat} (h0 : zkd k0 = 4) (h1 : zkd k1 = 4) (hd : k0 + 2 < k1 ∨ k1 + 2 < k0) (hb : u k1 0 = 0 ∨ u k1 0 = 1) {Q : MU → Prop} (hq : ∀ u', (∀ a, (a < k0 ∨ k0 + 2 < a) → u' a = u a) → (∀ j, j < 2 → u' k0 j = u k1 j) → (∀ j, j < 41 → u' (k0 + 1) j = u (k1 + 1) j) → (∀ j, j < 40 → u' (k0 + 2) j = u (k1 + 2) j) → Q u') : w_X2_become k0 k1 u Q := by
  unfold w_X2_become
  refine ⟨?_, fun a1 e1 a2 e2 => ?_⟩
  · rcases hb with h | h <;> rw [h]
    · exact ⟨bI_nr false, bI_ft false⟩
    · exact ⟨bI_nr true, bI_ft true⟩
  have r1 : a1 k1 = u k1 := by rw [e1]; exact u2_ne (by omega)
  have fr : ∀ a, a ≠ k0 → a2 a = u a := fun a ha => by rw [e2, u2_ne ha, e1, u2_ne ha]
  have sl : ∀ j, j < 2 → a2 k0 j = u k1 j := fun j hj => by
    rcases (show j = 0 ∨ j = 1 by omega) with h | h <;> subst h
    · rw [e2, u2_o (Or.inr (by decide)), e1, u2_at]
    · rw [e2, u2_at, r1]
  refine s_copy (zl4_1 h1) (zl4_1 h0) (by decide) (fun u7 o7 c7 => s_copy (zl4_2 h1) (zl4_2 h0) (by decide) (fun u9 o9 c9 => ?_))
  refine hq u9 (fun a ha => ?_) (fun j hj => ?_) (fun j hj => ?_) (fun j hj => ?_)
  · rw [o9 a (by omega), o7 a (by omega), fr a (by omega)]
  · rw [o9 k0 (by omega), o7 k0 (by omega)]; exact sl j hj
  · rw [o9 (k0 + 1) (by omega), c7 j hj, fr (k1 + 1) (by omega)]
  · rw [c9 j hj, o7 (k1 + 2) (by omega), fr (k1 + 2) (by omega)]
theorem GIs_bool {u : MU} {k : Nat} {g : Option Gm} (h : GIs u k g) : u k 0 = 0 ∨ u k 0 = 1 := by
  unfold GIs at h
  cases g with
  | none => exact Or.inl h
  | some q => exact Or.inr h.1
theorem s_become {u : MU} {k0 k1 : Nat} (h0 : zkd k0 = 2) (h1 : zkd k1 = 2) (hd : k0 + 7 < k1 ∨ k1 + 7 < k0) {S : St} (hS : StOk S) (hB : BIs u k1 S) {Q : MU → Prop} (hq : ∀ u', (∀ a, (a < k0 ∨ k0 + 7 < a) → u' a = u a) → BIs u' k0 S → u' (k0 + 1) 4 = u (k1 + 1) 4 → Q u') : w_X6_become k0 k1 u Q := by
  obtain ⟨⟨f1, f2, f3, f4⟩, b2, b3, b4, b5⟩ := hB
  obtain ⟨s1, s2, s3, s4, s5⟩ := hS
  unfold w_X6_become
  refine s_fieldBecome (zk2_1 h0) (zk2_1 h1) (by omega) (fun u2' o2 p1 p2 p3 p4 => ?_)
  have hg2 : u2' (k1 + 5) = u (k1 + 5) := o2 _ (by omega)
  refine s_gameBecome (zk2_5 h0) (zk2_5 h1) (by omega) (by rw [hg2]; exact GIs_bool b5) (fun u4 o4 q1 q2 q3 u5 e5 => ?_)
  have k1same : ∀ a, (a < k0 ∨ k0 + 7 < a) → u4 a = u a := fun a ha => by rw [o4 a (by omega), o2 a (by omega)]
  have fr : ∀ a, a ≠ k0 → u5 a = u4 a := fun a ha => by rw [e5]; exact u2_ne ha
  have F : ∀ j, j < 5 → u5 (k0 + 1) j = u (k1 + 1) j := fun j hj => by rw [fr _ (by omega), o4 _ (by omega)]; exact p1 j hj
  refine hq u5 (fun a ha => by rw [fr a (by omega)]; exact k1same a ha) ⟨⟨?_, ?_, ?_, fun b hb => ?_⟩, ?_, fun i q hi => ?_, ?_, ?_⟩ (F 4 (by decide))
  · rw [F 0 (by decide)]; exact f1
  · rw [F 2 (by decide)]; exact f2
  · rw [F 3 (by decide)]; exact f3
  · rw [fr _ (by omega), o4 _ (by omega), p4 b hb]; exact f4 b hb
  · rw [F 1 (by decide)]; exact b2
  · have hil := (List.getElem?_eq_some_iff.mp hi).1
    have hl16 := s4.1
    rw [fr _ (by omega), o4 _ (by omega), fr _ (by omega), o4 _ (by omega)]
    have e1 := p2 i (by omega)
    have e2 := p3 i (by omega)
    rw [show k0 + 1 + 1 = k0 + 2 by omega, show k1 + 1 + 1 = k1 + 2 by omega] at e1
    rw [show k0 + 1 + 2 = k0 + 3 by omega, show k1 + 1 + 2 = k1 + 3 by omega] at e2
    rw [e1, e2]
    exact b3 i q hi
  · rw [e5, u2_at, k1same k1 (by omega)]; exact b4
  · have g1 : ∀ j, j < 2 → u5 (k0 + 5) j = u (k1 + 5) j := fun j hj => by rw [fr _ (by omega), q1 j hj, hg2]
    have g2 : ∀ j, j < 41 → u5 (k0 + 5 + 1) j = u (k1 + 5 + 1) j := fun j hj => by rw [fr _ (by omega), q2 j hj, o2 _ (by omega)]
    have g3 : ∀ j, j < 40 → u5 (k0 + 5 + 2) j = u (k1 + 5 + 2) j := fun j hj => by rw [fr _ (by omega), q3 j hj, o2 _ (by omega)]
    unfold GIs at b5 ⊢
    cases hg : S.game with
    | none =>
      rw [hg] at b5
      show u5 (k0 + 5) 0 = 0
      rw [g1 0 (by decide)]; exact b5
    | some z =>
      obtain ⟨h, p⟩ := z
      rw [hg] at b5
      obtain ⟨c1, c2, c3, c4⟩ := b5
      have hl := (s5 h p hg).1
      refine ⟨?_, ?_, ?_, fun i q hi => ?_⟩
      · rw [g1 0 (by decide)]; exact c1
      · rw [g1 1 (by decide)]; exact c2
      · rw [g2 _ (by omega)]; exact c3
      · have hil := (List.getElem?_eq_some_iff.mp hi).1
        rw [g2 _ (by omega), g3 _ (by omega)]; exact c4 i q hi
