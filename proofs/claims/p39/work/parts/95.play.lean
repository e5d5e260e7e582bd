/-! the class: play -/
theorem best_mem {c : Cfg} {f : Nat → Nat} {p k : Nat} (h : bestK c f p = some k) : k ∈ mvs c p := List.mem_of_find?_eq_some h
theorem setS_self {A : Ab} {g : Option Gm} (hg : A.S.game = g) : A.setS (mkS A.S.n A.S.traps A.S.geese A.S.ps g A.S.begun) = A := by rw [← hg]; rfl
theorem lN_z {n : Nat} (h : n < 2 ^ 64) : lN n = 0 ↔ n = 0 := by
  constructor
  · intro e
    have := wb_tn h
    rw [e] at this
    exact this.symm.trans rfl
  · intro e; rw [e]; rfl
theorem Mv_0 {c : Cfg} {p : Nat} : Mv c p = 0 ↔ (mvs c p).length = 0 := by
  constructor
  · intro e
    unfold mvs
    rw [e]
    decide +kernel
  · intro e
    exact bl_nil (Mv_lt c p) (List.length_eq_zero_iff.mp e)
theorem s_play_loop {V : Nat → Cfg} {W : Nat} {B : Bf} {i : Int32} {M : Nat} (hM : M ≤ 40) {Q : Int32 → MU → Prop} :
    ∀ (rem d : Nat) (A : Ab) (h : List (Nat × Nat)) (p : Nat) (u : MU), d + rem = M → CI V W u A B i → A.S.game = some (h, p) → TbIs u 95 A.S.cfg (slv A.S.cfg) →
      (∀ u', CI V W u' (A.setS (mkS A.S.n A.S.traps A.S.geese A.S.ps (some (plG A.S.cfg rem (h, p)).1) A.S.begun)) B i → Q (nI (d + (plG A.S.cfg rem (h, p)).2)) u') → wl_X9_letPlay_104 Q (rem + 1) (nI M) (nI d) u := by
  intro rem
  induction rem with
  | zero =>
    intro d A h p u hd hC hg hT hq
    rw [wl_X9_letPlay_104]
    refine ⟨fun _ => ?_, fun z => absurd (nI_le (by omega) (by omega)) z⟩
    have := hq u (by show CI V W u (A.setS (mkS A.S.n A.S.traps A.S.geese A.S.ps (some (h, p)) A.S.begun)) B i; rw [setS_self hg]; exact hC)
    exact this
  | succ rem ih =>
    intro d A h p u hd hC hg hT hq
    have hS := hC.S
    have hc := hC.c
    have hG := hC.B.2.2.2.2
    rw [hg] at hG
    obtain ⟨k1, k2, k3⟩ := hS.2.2.2.2 h p hg
    have g2 : u 6 1 = nI h.length := hG.2.1
    have stop : plG A.S.cfg (rem + 1) (h, p) = ((h, p), 0) → Q (nI d) u := fun e => by
      have := hq u (by rw [e]; show CI V W u (A.setS (mkS A.S.n A.S.traps A.S.geese A.S.ps (some (h, p)) A.S.begun)) B i; rw [setS_self hg]; exact hC)
      rw [e] at this
      exact this
    rw [wl_X9_letPlay_104]
    refine ⟨fun z => absurd z (nI_ge (by omega) (by omega)), fun _ => ?_⟩
    rw [g2]
    refine ⟨fun z => stop ?_, fun z => s_last hG k1 (s_bestMove hc hC.F rfl hT.2.2 (slv_lt30 hc) k2 ?_)⟩
    · have h40 : 40 ≤ h.length := (nI_leI (a := 40) (by decide) (by omega)).mp z
      rw [plG, if_pos h40]
    · have hl : ¬ 40 ≤ h.length := fun z2 => z (nI_le (a := 40) z2 (by omega))
      cases hb : bestK A.S.cfg (slv A.S.cfg) p with
      | none =>
        refine ⟨fun z2 => absurd rfl z2, fun _ => stop ?_⟩
        rw [plG, if_neg hl, hb]
      | some k =>
        have hk := mvs_mem.mp (best_mem hb)
        have hpos := (mv_wb hc k2 hk.2).1
        have hp2 := (posB_spec.mp k2).1
        have he : plG A.S.cfg (rem + 1) (h, p) = ((plG A.S.cfg rem (h ++ [(p, k)], sh p (k / 8) (k % 8))).1, (plG A.S.cfg rem (h ++ [(p, k)], sh p (k / 8) (k % 8))).2 + 1) := by
          rw [plG, if_neg hl, hb]
        rw [he] at hq
        refine ⟨fun _ => s_from hk.1 (s_to hk.1 (s_shifted hp2 (by omega) (by omega) (s_add hC hg (by omega) hk.1 hpos (fun u' c1 c2 x3 hx3 => ?_)))), fun z2 => absurd m1_lt (by rw [← z2]; exact nI_pos (show k < 2 ^ 31 by omega))⟩
        rw [hx3, nI_1]
        refine ih (d + 1) _ (h ++ [(p, k)]) (sh p (k / 8) (k % 8)) u' (by omega) c1 rfl (TbIs_of (fun a _ _ => c2 a (by omega)) hT) (fun u2' c3 => ?_)
        show Q (nI (d + 1 + (plG A.S.cfg rem (h ++ [(p, k)], sh p (k / 8) (k % 8))).2)) u2'
        rw [show d + 1 + (plG A.S.cfg rem (h ++ [(p, k)], sh p (k / 8) (k % 8))).2 = d + ((plG A.S.cfg rem (h ++ [(p, k)], sh p (k / 8) (k % 8))).2 + 1) by omega]
        exact hq u2' c3
theorem s_play {V : Nat → Cfg} {W : Nat} {u : MU} {A : Ab} {B : Bf} {i : Int32} (hC : CI V W u A B i) (hW : W < 2 ^ 20) {x : Int32} {Q : Int32 → MU → Prop} (hq : CRes V W A B i Q (opPlay A.S x)) : w_X9_letPlay x u Q := by
  have hS := hC.S
  have hc := hC.c
  have hG := hC.B.2.2.2.2
  unfold opPlay at hq
  unfold w_X9_letPlay wb_X9_letPlay_19
  refine ⟨fun h1 => ?_, fun h1 => ⟨fun h2 => ?_, fun h2 => ?_⟩⟩
  · rw [if_pos h1] at hq
    exact s_refused hC (by decide) hq
  · rw [if_neg h1, if_neg (fun z => (fa_of_lt z).2.1 h2)] at hq
    have hx0 : ¬ x < 0 := fun z => h1 (fa_trans z (by decide))
    obtain ⟨M, hM, rfl⟩ := nI_of hx0
    have hcg : cl (nI M) = M := nI_clamp hM
    rw [hcg] at hq
    have g2 : M ≤ 40 := (nI_leI (b := 40) hM (by decide)).mp h2
    cases hg : A.S.game with
    | none =>
      rw [hg] at hq hG
      exact ⟨fun z => absurd hG z, fun _ => s_refused hC (by decide) hq⟩
    | some z =>
      obtain ⟨h, p⟩ := z
      rw [hg] at hq hG
      obtain ⟨k1, k2, k3⟩ := hS.2.2.2.2 h p hg
      have g1 : u 6 0 = 1 := hG.1
      have g61 : u 6 1 = nI h.length := hG.2.1
      refine ⟨fun _ => s_last hG k1 (s_movesOf hc hC.F k2 ⟨fun z => ?_, fun z => ?_⟩), fun z => absurd (g1.symm.trans z) (by decide)⟩
      · rw [lg_cmp_eq, lN_z (Mv_lt _ _), Mv_0] at z
        simp only [if_neg z] at hq
        rw [g61]
        refine ⟨fun z2 => ?_, fun z2 => ?_⟩
        · have hl : h.length < 40 := (nI_ltI (b := 40) (by omega) (by decide)).mp z2
          simp only [if_pos hl] at hq
          refine s_solve95 hC hW (fun u' c1 c2 c3 => ⟨M + 1, ?_⟩)
          refine s_play_loop g2 M 0 A h p u' (by omega) c1 hg c2 (fun u2' c4 => ?_)
          rw [Nat.zero_add]
          exact hq V W u2' (Nat.le_succ _) c4
        · have hl : ¬ h.length < 40 := fun z3 => z2 (nI_lt (b := 40) z3 (by decide))
          simp only [if_neg hl] at hq
          exact s_refused hC (by decide) hq
      · rw [lg_cmp_eq, lN_z (Mv_lt _ _), Mv_0] at z
        simp only [if_pos z] at hq
        rw [g61]
        exact s_refused hC (by decide) hq
  · rw [if_neg h1, if_pos (fa_of_nle h2)] at hq
    exact s_refused hC (by decide) hq
