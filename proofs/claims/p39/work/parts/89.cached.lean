/-! THE CLASS'S TABLES, asked with their cache; a refusal -/
theorem TC_hit {V : Nat → Cfg} {W : Nat} {u : MU} {k w : Nat} {c : Cfg} (hT : TC V W u k) (hW : W < 2 ^ 20) (hw : w ≤ W) (e : u k 1 = nI w) (hV : V w = c) : TbIs u k c (slv c) := by
  rcases hT with z | ⟨w', h1, h2, h3, h4⟩
  · exact absurd m1_lt (by rw [← z, e]; exact nI_pos (by omega))
  · have : w' = w := (nI_eq (by omega) (by omega)).mp (h2.symm.trans e)
    rw [this, hV] at h4
    exact h4
theorem s_solve_at {V : Nat → Cfg} {W : Nat} {u : MU} {A : Ab} {B : Bf} {i : Int32} {k k1 w : Nat} {c : Cfg} (hk : k = 95 ∨ k = 100) (hk1 : k1 + 3 < k) (hC : CI V W u A B i) (hW : W < 2 ^ 20) (hc : CfgOk c) (hF : FIs u k1 c) (hw : w ≤ W) (e : u k1 4 = nI w) (hV : V w = c) {Q : MU → Prop}
    (hq : ∀ u', CI V W u' A B i → TbIs u' k c (slv c) → (∀ a, (a < k ∨ k + 4 < a) → u' a = u a) → Q u') : w_X7_solve k k1 u Q := by
  have hT : TC V W u k := by
    obtain ⟨-, -, -, -, m5, m6, -⟩ := hC.M
    rcases hk with z | z <;> rw [z]
    · exact m5
    · exact m6
  have hz : zkd k = 9 := by rcases hk with z | z <;> rw [z] <;> rfl
  by_cases hs : u k 1 = u k1 4
  · unfold w_X7_solve
    exact ⟨fun z => absurd hs z, fun _ => hq u hC (TC_hit hT hW hw (hs.trans e) hV) (fun _ _ => rfl)⟩
  · refine s_solve_new hc hz hk1 hF hs (fun u' f g1 g2 g3 g4 g5 => ?_)
    have hT' : TbIs u' k c (slv c) := ⟨g3.1, g3.2.1, TIs_slv hc g4 g3.2.2⟩
    refine hq u' (CI_tab hk hC g1 (Or.inr ⟨w, hw, g2.trans e, by rw [hV]; exact hc, by rw [hV]; exact hT'⟩)) hT' g1
theorem s_solve95 {V : Nat → Cfg} {W : Nat} {u : MU} {A : Ab} {B : Bf} {i : Int32} (hC : CI V W u A B i) (hW : W < 2 ^ 20) {Q : MU → Prop}
    (hq : ∀ u', CI V W u' A B i → TbIs u' 95 A.S.cfg (slv A.S.cfg) → (∀ a, (a < 95 ∨ 99 < a) → u' a = u a) → Q u') : w_X7_solve 95 2 u Q := by
  obtain ⟨w, h1, h2, h3⟩ := hC.V
  exact s_solve_at (Or.inl rfl) (by decide) hC hW hC.c hC.F h1 h2 h3 hq
theorem s_second {V : Nat → Cfg} {W : Nat} {u : MU} {A : Ab} {B : Bf} {i : Int32} (hC : CI V W u A B i) (hW : W < 2 ^ 20) {Q : MU → Prop}
    (hq : ∀ u', CI V W u' A B i → OcI u' A.S.cfg (fun q => oc (slv A.S.cfg q)) → Q u') : w_X5_solve 2 u Q := by
  obtain ⟨w, h1, h2, h3⟩ := hC.V
  by_cases hs : u 105 0 = u 2 4
  · have hO : OcI u A.S.cfg (fun q => oc (slv A.S.cfg q)) := by
      obtain ⟨-, -, -, -, -, -, m7, -⟩ := hC.M
      rcases m7 with z | ⟨w', g1, g2, g3, g4⟩
      · exact absurd m1_lt (by rw [← z, hs, h2]; exact nI_pos (by omega))
      · have : w' = w := (nI_eq (by omega) (by omega)).mp (g2.symm.trans (hs.trans h2))
        rw [this, h3] at g4
        exact g4
    unfold w_X5_solve
    exact ⟨fun z => absurd hs z, fun _ => hq u hC hO⟩
  · refine s_second_new hC.c (by decide) hC.F hs (fun u' g1 g2 g3 => ?_)
    exact hq u' (CI_sec hC g1 (Or.inr ⟨w, h1, g2.trans h2, by rw [h3]; exact hC.c, by rw [h3]; exact g3⟩)) g3
theorem s_refused {V : Nat → Cfg} {W : Nat} {u : MU} {A : Ab} {B : Bf} {i : Int32} (hC : CI V W u A B i) {w d : Int32} (h0 : ¬ w = 0) {Q : Int32 → MU → Prop} (hq : ∀ u', CI V W u' (A.setWhy w d i) B i → Q (-1) u') : w_X9_refused w d u Q := by
  unfold w_X9_refused
  intro a1 e1 a2 e2 a3 e3 a4 e4
  have fr : ∀ a, a ≠ 116 → a3 a = u a := fun a ha => by rw [e3, u2_ne ha, e2, u2_ne ha, e1, u2_ne ha]
  have f4 : ∀ a, a ≠ 116 → a4 a = u a := fun a ha => by rw [e4, u2_ne ha]; exact fr a ha
  refine hq a4 (CI_why hC f4 ⟨?_, ?_, ?_, ?_⟩ h0)
  · rw [e4, u2_o (Or.inr (by decide)), e3, u2_o (Or.inr (by decide)), e2, u2_o (Or.inr (by decide)), e1, u2_at]
  · rw [e4, u2_o (Or.inr (by decide)), e3, u2_o (Or.inr (by decide)), e2, u2_at]
  · rw [e4, u2_o (Or.inr (by decide)), e3, u2_at]
  · rw [e4, u2_at, fr 0 (by decide)]; exact hC.2.2.1
/-- after a change of the field: a new version, no game -/
theorem s_marked {V : Nat → Cfg} {W : Nat} {u u1 : MU} {A : Ab} {B : Bf} {i : Int32} (hC : CI V W u A B i) {S : St} (hS : StOk S) (hfr : ∀ a, (a < 2 ∨ 5 < a) → u1 a = u a) (hF : FIs u1 2 S.cfg) (hp : u1 2 1 = nI S.ps.length) (hr : ∀ (i : Nat) q, S.ps[i]? = some q → u1 3 i = nI q.1 ∧ u1 4 i = nI q.2) (hg : S.game = none) (hb : S.begun = A.S.begun) {Q : MU → Prop}
    (hq : ∀ u' V', CI V' (W + 1) u' (A.setS S) B i → (∀ j, j ≠ 4 → u' 2 j = u1 2 j) → Q u') : w_X9_markChanged u1 Q := by
  unfold w_X9_markChanged w_X9_newVersion
  intro a1 e1 a2 e2 a3 e3
  have h15 : a1 0 15 = nI W := by rw [e1, u2_ne (by decide), hfr 0 (by omega)]; exact hC.2.1
  have v15 : a2 0 15 = nI (W + 1) := by rw [e2, u2_at, h15, nI_1]
  have fr : ∀ a, a ≠ 0 → a ≠ 2 → a ≠ 6 → a3 a = u1 a := fun a h0 h2 h6 => by rw [e3, u2_ne h2, e2, u2_ne h0, e1, u2_ne h6]
  have f2 : ∀ j, j ≠ 4 → a3 2 j = u1 2 j := fun j hj => by rw [e3, u2_o (Or.inr hj), e2, u2_ne (by decide), e1, u2_ne (by decide)]
  have f24 : a3 2 4 = nI (W + 1) := by rw [e3, u2_at]; exact v15
  have f0 : ∀ j, j ≠ 15 → a3 0 j = u 0 j := fun j hj => by rw [e3, u2_ne (by decide), e2, u2_o (Or.inr hj), e1, u2_ne (by decide), hfr 0 (by omega)]
  have f015 : a3 0 15 = nI (W + 1) := by rw [e3, u2_ne (by decide)]; exact v15
  have f6 : a3 6 0 = 0 := by rw [e3, u2_ne (by decide), e2, u2_ne (by decide), e1, u2_at]
  have hx : Vx V W (fun w => if w = W + 1 then S.cfg else V w) (W + 1) := ⟨by omega, fun w hw => if_neg (by omega)⟩
  refine hq a3 (fun w => if w = W + 1 then S.cfg else V w) (CI_now hC hx f0 f015 (fun a ha => by rw [fr a (by omega) (by omega) (by omega)]; exact hfr a (by omega)) hS ⟨⟨?_, ?_, ?_, fun b hb => ?_⟩, ?_, fun j q hj => ?_, ?_, ?_⟩ ⟨W + 1, Nat.le_refl _, f24, if_pos rfl⟩) f2
  · rw [f2 0 (by decide)]; exact hF.1
  · rw [f2 2 (by decide)]; exact hF.2.1
  · rw [f2 3 (by decide)]; exact hF.2.2.1
  · rw [fr 5 (by decide) (by decide) (by decide)]; exact hF.2.2.2 b hb
  · rw [f2 1 (by decide)]; exact hp
  · rw [fr 3 (by decide) (by decide) (by decide), fr 4 (by decide) (by decide) (by decide)]; exact hr j q hj
  · rw [fr 1 (by decide) (by decide) (by decide), hfr 1 (by omega), hb]; exact hC.B.2.2.2.1
  · rw [hg]; exact f6
