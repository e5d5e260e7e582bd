/-! the class: begin, move, back, play -/
/-- after a change of the game alone: blocks 6, 7, 8, and how many were begun -/
theorem CI_game {V : Nat → Cfg} {W : Nat} {u u' : MU} {A : Ab} {B : Bf} {i : Int32} (hC : CI V W u A B i) {gm : Option Gm} {bg : Int32} (hfr : ∀ a, (a < 1 ∨ 8 < a ∨ (2 ≤ a ∧ a ≤ 5)) → u' a = u a) (hb : u' 1 2 = bg) (hG : GIs u' 6 gm) (hg : gmOk A.S.cfg gm) : CI V W u' (A.setS (mkS A.S.n A.S.traps A.S.geese A.S.ps gm bg)) B i := by
  have hS := hC.S
  refine CI_now hC (Vx.rf V W) (fun j _ => by rw [hfr 0 (by omega)]) (by rw [hfr 0 (by omega)]; exact hC.2.1) (fun a ha => hfr a (by omega)) ⟨hS.1, hS.2.1, hS.2.2.1, hS.2.2.2.1, hg⟩ ⟨FIs_of (hfr 2 (by omega)) (hfr 5 (by omega)) hC.F, ?_, fun j q hj => ?_, hb, hG⟩ (VIs_of (Vx.rf V W) (by rw [hfr (1 + 1) (by omega)]) hC.V)
  · rw [hfr (1 + 1) (by omega)]; exact hC.B.2.1
  · rw [hfr (1 + 2) (by omega), hfr (1 + 3) (by omega)]; exact hC.B.2.2.1 j q hj
theorem s_count {u : MU} {k p : Nat} {c : Cfg} (hc : CfgOk c) (hF : FIs u k c) (hp : posB c p = true) {Q : Int32 → Prop} (h : Q (nI (mvs c p).length)) : w_X1_movesOf k u (nI p) (fun r => w_J13_bitCount_95d88 r Q) := by
  refine s_movesOf hc hF hp (s_bitCountL (Mv_lt c p) ?_)
  rw [show ctb (Mv c p) 64 = (mvs c p).length from (bl_ct (Mv c p)).symm]
  exact h
theorem s_begin {V : Nat → Cfg} {W : Nat} {u : MU} {A : Ab} {B : Bf} {i : Int32} (hC : CI V W u A B i) {x : Int32} {Q : Int32 → MU → Prop} (hq : CRes V W A B i Q (opBegin A.S x)) : w_X9_startGame x u Q := by
  have hS := hC.S
  have hc := hC.c
  have hF := hC.F
  unfold opBegin at hq
  unfold w_X9_startGame
  refine s_holds hc hF (bI_br2 (fun e => ?_) (fun e => ?_))
  · rw [if_pos e] at hq
    exact s_refused hC (by decide) hq
  · rw [if_neg (by rw [e]; decide)] at hq
    obtain ⟨p, rfl, hp2, hp⟩ := posI_of e
    have hcp : cl (nI p) = p := nI_clamp (by omega)
    rw [hcp] at hq
    unfold w_X2_start
    intro a1 e1 a2 e2
    refine s_put (u := a2) (k := 6 + 1) (i := 0) (N := 41) rfl (by decide) (by decide) (fun a6 e6 => ?_)
    have fr : ∀ a, a ≠ 1 → a ≠ 6 → a ≠ 7 → a6 a = u a := fun a h1 h6 h7 => by rw [e6, u2_ne h1, u2_ne (show a ≠ 6 + 1 from h7), e2, u2_ne h6, e1, u2_ne h6]
    have h7 : a6 7 0 = nI p := by rw [e6, u2_ne (show (7 : Nat) ≠ 1 by decide)]; exact u2_at (k := 6 + 1)
    have h60 : a6 6 0 = 1 := by rw [e6, u2_ne (show (6 : Nat) ≠ 1 by decide), u2_ne (show (6 : Nat) ≠ 6 + 1 by decide), e2, u2_o (Or.inr (by decide)), e1, u2_at]
    have h61 : a6 6 1 = 0 := by rw [e6, u2_ne (show (6 : Nat) ≠ 1 by decide), u2_ne (show (6 : Nat) ≠ 6 + 1 by decide), e2, u2_at]
    have h1 : a6 1 2 = A.S.begun + 1 := by
      rw [e6, u2_at, u2_ne (show (1 : Nat) ≠ 6 + 1 by decide), e2, u2_ne (by decide), e1, u2_ne (by decide), show u 1 2 = A.S.begun from hC.B.2.2.2.1]
    have hC' := CI_game hC (u' := a6) (gm := some ([], p)) (fun a ha => fr a (by omega) (by omega) (by omega)) h1 ⟨h60, h61, h7, fun i q h => by simp at h⟩ (fun h q e => by cases e; exact ⟨by decide, hp, fun _ h => absurd h List.not_mem_nil⟩)
    refine s_count hc (FIs_of (fr 2 (by decide) (by decide) (by decide)) (fr 5 (by decide) (by decide) (by decide)) hF) hp ?_
    exact hq V W a6 (Nat.le_succ _) hC'
/-- a move is added to the game -/
theorem s_add {V : Nat → Cfg} {W : Nat} {u : MU} {A : Ab} {B : Bf} {i : Int32} (hC : CI V W u A B i) {h : List (Nat × Nat)} {p q m : Nat} (hg : A.S.game = some (h, p)) (hl : h.length < 40) (hm : m < 64) (hq : posB A.S.cfg q = true) {Q : MU → Prop}
    (hQ : ∀ u', CI V W u' (A.setS (mkS A.S.n A.S.traps A.S.geese A.S.ps (some (h ++ [(p, m)], q)) A.S.begun)) B i → (∀ a, (a < 6 ∨ 8 < a) → u' a = u a) → Q u') : w_X2_add 6 (nI m) (nI q) u Q := by
  have hS := hC.S
  have hG := hC.B.2.2.2.2
  rw [hg] at hG
  obtain ⟨g1, g2, g3, g4⟩ := hG
  have g2' : u 6 1 = nI h.length := g2
  unfold w_X2_add
  rw [g2']
  refine s_put (k := 6 + 2) (N := 40) rfl hl (by decide) (fun a3 e3 => ?_)
  rw [u2_ne (show (6 : Nat) ≠ 6 + 2 by decide), g2', nI_1] at e3
  have x1 : a3 6 1 = nI (h.length + 1) := by rw [e3, u2_at]
  rw [x1]
  refine s_put (k := 6 + 1) (N := 41) rfl (by omega) (by decide) ?_
  have fr : ∀ a, a ≠ 6 → a ≠ 7 → a ≠ 8 → u2 a3 (6 + 1) (h.length + 1) (nI q) a = u a := fun a h6 h7 h8 => by rw [u2_ne (show a ≠ 6 + 1 from h7), e3, u2_ne h6, u2_ne (show a ≠ 6 + 2 from h8)]
  have y6 : ∀ j, j ≠ 1 → u2 a3 (6 + 1) (h.length + 1) (nI q) 6 j = u 6 j := fun j hj => by rw [u2_ne (show (6 : Nat) ≠ 6 + 1 by decide), e3, u2_o (Or.inr hj), u2_ne (show (6 : Nat) ≠ 6 + 2 by decide)]
  refine hQ _ (CI_game hC (fun a ha => fr a (by omega) (by omega) (by omega)) ?_ ⟨?_, ?_, ?_, fun j z hj => ?_⟩ (fun h' p' e => ?_)) (fun a ha => fr a (by omega) (by omega) (by omega))
  · rw [fr 1 (by decide) (by decide) (by decide)]; exact hC.B.2.2.2.1
  · rw [y6 0 (by decide)]; exact g1
  · rw [u2_ne (show (6 : Nat) ≠ 6 + 1 by decide), x1, List.length_append]; rfl
  · rw [List.length_append]; exact u2_at
  · rcases Nat.lt_or_ge j h.length with z1 | z1
    · rw [List.getElem?_append_left z1] at hj
      have := g4 j z hj
      refine ⟨?_, ?_⟩
      · rw [u2_o (Or.inr (by omega)), e3, u2_ne (show (6 + 1 : Nat) ≠ 6 by decide), u2_ne (show (6 + 1 : Nat) ≠ 6 + 2 by decide)]; exact this.1
      · rw [u2_ne (show (6 + 2 : Nat) ≠ 6 + 1 by decide), e3, u2_ne (show (6 + 2 : Nat) ≠ 6 by decide), u2_o (Or.inr (by omega))]; exact this.2
    · have hjl := (List.getElem?_eq_some_iff.mp hj).1
      rw [List.length_append, List.length_singleton] at hjl
      have hj2 : j = h.length := by omega
      subst hj2
      rw [List.getElem?_append_right (Nat.le_refl _), Nat.sub_self, List.getElem?_cons_zero] at hj
      cases hj
      refine ⟨?_, ?_⟩
      · rw [u2_o (Or.inr (by omega)), e3, u2_ne (show (6 + 1 : Nat) ≠ 6 by decide), u2_ne (show (6 + 1 : Nat) ≠ 6 + 2 by decide)]; exact g3
      · rw [u2_ne (show (6 + 2 : Nat) ≠ 6 + 1 by decide), e3, u2_ne (show (6 + 2 : Nat) ≠ 6 by decide)]; exact u2_at
  · cases e
    obtain ⟨k1, k2, k3⟩ := hS.2.2.2.2 h p hg
    refine ⟨by rw [List.length_append, List.length_singleton]; omega, hq, fun z hz => ?_⟩
    rcases List.mem_append.mp hz with z1 | z1
    · exact k3 z z1
    · rw [List.mem_singleton.mp z1]; exact ⟨k2, hm⟩
theorem s_last {u : MU} {h : List (Nat × Nat)} {p : Nat} (hG : GIs u 6 (some (h, p))) (hl : h.length ≤ 40) {Q : Int32 → Prop} (hq : Q (nI p)) : w_X2_lastPosition 6 u Q := by
  obtain ⟨g1, g2, g3, g4⟩ := hG
  unfold w_X2_lastPosition
  rw [g2]
  refine s_at (k := 6 + 1) (N := 41) rfl (by omega) (by decide) ?_
  rw [g3]
  exact hq
theorem s_move {V : Nat → Cfg} {W : Nat} {u : MU} {A : Ab} {B : Bf} {i : Int32} (hC : CI V W u A B i) {x y : Int32} {Q : Int32 → MU → Prop} (hq : CRes V W A B i Q (opMove A.S x y)) : w_X9_makeMove x y u Q := by
  have hS := hC.S
  have hc := hC.c
  have hF := hC.F
  have hG := hC.B.2.2.2.2
  unfold opMove at hq
  unfold w_X9_makeMove
  cases hg : A.S.game with
  | none =>
    rw [hg] at hq hG
    exact ⟨fun z => absurd hG z, fun _ => s_refused hC (by decide) hq⟩
  | some z =>
    obtain ⟨h, p⟩ := z
    rw [hg] at hq hG
    obtain ⟨k1, k2, k3⟩ := hS.2.2.2.2 h p hg
    have g1 : u 6 0 = 1 := hG.1
    have g2 : u 6 1 = nI h.length := hG.2.1
    have hm64 := mvs_le (c := A.S.cfg) (p := p)
    have hp2 := (posB_spec.mp k2).1
    refine ⟨fun _ => s_last hG k1 (s_count hc hF k2 ⟨fun z => ?_, fun z => ?_⟩), fun z => absurd (g1.symm.trans z) (by decide)⟩
    · have h0 : ¬ (mvs A.S.cfg p).length = 0 := fun e => z (by rw [e]; rfl)
      simp only [if_neg h0] at hq
      refine s_allows hc hF k2 (bI_br2 (fun e => ?_) (fun e => ?_))
      · simp only [if_pos e] at hq
        exact s_refused hC (by decide) hq
      · simp only [if_neg (show ¬ alI A.S.cfg p x y = false by rw [e]; decide)] at hq
        rw [g2]
        have al := e
        unfold alI at al
        rw [Bool.and_eq_true, Bool.and_eq_true] at al
        obtain ⟨⟨ha, hb⟩, hmv⟩ := al
        obtain ⟨hx, hxn⟩ := has_of hc ha
        obtain ⟨hy, hyn⟩ := has_of hc hb
        have hn := hc.hn
        have hpos := (mv_wb hc k2 hmv).1
        refine ⟨fun z2 => ?_, fun z2 => ?_⟩
        · have hl : h.length < 40 := (nI_ltI (b := 40) (by omega) (by decide)).mp z2
          simp only [if_pos hl] at hq
          have main : w_X9_shifted (nI p) (nI (cl x)) (nI (cl y)) (fun r_13 => w_X9_moveNumber (nI (cl x)) (nI (cl y)) (fun r_15 => w_X2_add 6 r_15 r_13 u (fun u_18 => w_X1_movesOf 2 u_18 r_13 (fun r_19 => w_J13_bitCount_95d88 r_19 (fun r_21 => Q r_21 u_18))))) := by
            refine s_shifted hp2 (by omega) (by omega) (s_mn (s_add hC hg hl (by omega) hpos (fun u' c1 c2 => ?_)))
            exact s_count (Q := fun r => Q r u') hc c1.F hpos (hq V W u' (Nat.le_succ _) c1)
          rw [← hx, ← hy] at main
          exact main
        · have hl : ¬ h.length < 40 := fun z3 => z2 (nI_lt (b := 40) z3 (by decide))
          simp only [if_neg hl] at hq
          exact s_refused hC (by decide) hq
    · have h0 : (mvs A.S.cfg p).length = 0 := (nI_eq (b := 0) (by omega) (by decide)).mp z
      simp only [if_pos h0] at hq
      rw [g2]
      exact s_refused hC (by decide) hq
theorem s_back {V : Nat → Cfg} {W : Nat} {u : MU} {A : Ab} {B : Bf} {i : Int32} (hC : CI V W u A B i) {Q : Int32 → MU → Prop} (hq : CRes V W A B i Q (opBack A.S)) : w_X9_takeBack u Q := by
  have hS := hC.S
  have hG := hC.B.2.2.2.2
  unfold opBack at hq
  unfold w_X9_takeBack
  cases hg : A.S.game with
  | none =>
    rw [hg] at hq hG
    exact ⟨fun z => absurd hG z, fun _ => s_refused hC (by decide) hq⟩
  | some z =>
    obtain ⟨h, p⟩ := z
    rw [hg] at hq hG
    obtain ⟨k1, k2, k3⟩ := hS.2.2.2.2 h p hg
    have g1 : u 6 0 = 1 := hG.1
    have g2 : u 6 1 = nI h.length := hG.2.1
    rw [g2]
    refine ⟨fun _ => ⟨fun z a1 e1 => ?_, fun z => ?_⟩, fun z => absurd (g1.symm.trans z) (by decide)⟩
    · have h0 : h.length ≠ 0 := fun e => z (by rw [e]; rfl)
      have hlast : h.getLast? = h[h.length - 1]? := List.getLast?_eq_getElem?
      have hget : h[h.length - 1]? = some h[h.length - 1] := List.getElem?_eq_getElem (by omega)
      simp only [hlast, hget] at hq
      generalize h[h.length - 1] = q at hq hget
      rw [nI_pr (by omega)] at e1
      have x1 : a1 6 1 = nI (h.length - 1) := by rw [e1, u2_at]
      have fr : ∀ a, a ≠ 6 → a1 a = u a := fun a ha => by rw [e1]; exact u2_ne ha
      obtain ⟨q1, q2⟩ := k3 q (List.mem_of_getElem? hget)
      rw [x1]
      refine hq V W a1 (Nat.le_succ _) (CI_game hC (fun a ha => fr a (by omega)) (by rw [fr 1 (by decide)]; exact hC.B.2.2.2.1) ⟨?_, ?_, ?_, fun j z2 hj => ?_⟩ (fun h' p' e => ?_))
      · rw [e1, u2_o (Or.inr (by decide))]; exact g1
      · rw [x1, List.length_dropLast]
      · rw [List.length_dropLast, fr (6 + 1) (by decide)]; exact (hG.2.2.2 _ q hget).1
      · have hjl := (List.getElem?_eq_some_iff.mp hj).1
        rw [List.length_dropLast] at hjl
        rw [List.getElem?_dropLast, if_pos hjl] at hj
        rw [fr (6 + 1) (by decide), fr (6 + 2) (by decide)]
        exact hG.2.2.2 j z2 hj
      · cases e
        exact ⟨by rw [List.length_dropLast]; omega, q1, fun z2 hz2 => k3 z2 ((List.dropLast_sublist h).mem hz2)⟩
    · have h0 : h.length = 0 := (nI_eq (b := 0) (by omega) (by decide)).mp z
      have he : h = [] := List.length_eq_zero_iff.mp h0
      rw [he] at hq
      exact s_refused hC (by decide) hq
