/-! THE CLASS KEEPS what there was, and brings it back -/
def push (h : List St) (S : St) : List St := (if h.length = 8 then h.tail else h) ++ [S]
theorem push_len {h : List St} (hl : h.length ≤ 8) (S : St) : (push h S).length ≤ 8 ∧ (push h S).length = if h.length = 8 then 8 else h.length + 1 := by
  unfold push
  by_cases e : h.length = 8
  · rw [if_pos e, if_pos e, List.length_append, List.length_tail, List.length_singleton]; omega
  · rw [if_neg e, if_neg e, List.length_append, List.length_singleton]; omega
theorem push_mem {h : List St} {S T : St} (hm : T ∈ push h S) : T ∈ h ∨ T = S := by
  unfold push at hm
  rcases List.mem_append.mp hm with z | z
  · split at z
    · exact Or.inl (List.mem_of_mem_tail z)
    · exact Or.inl z
  · exact Or.inr (List.mem_singleton.mp z)
/-- a successful change: what there was is kept -/
def Ab.keep (A : Ab) (S : St) : Ab := mkA A.S A.sv (push A.hist S) A.text A.line A.why A.fault
theorem CI_drop {V : Nat → Cfg} {W : Nat} {u : MU} {A : Ab} {B : Bf} {i : Int32} (hC : CI V W u A B i) : CI V W u A none i := by
  obtain ⟨a1, a2, a3, a4, a5, m1, m2, m3, m4, m5⟩ := hC
  exact ⟨a1, a2, a3, a4, a5, m1, m2, m3, trivial, m5⟩
theorem s_setAside {V : Nat → Cfg} {W : Nat} {u : MU} {A : Ab} {B : Bf} {i : Int32} (hC : CI V W u A B i) {Q : MU → Prop} {r : Option (List Cmd)} (hr : ∀ cs, r = some cs → RdC u cs) (hq : ∀ u', CI V W u' A (some (A.S, r)) i → (∀ a, (a < 9 ∨ 16 < a) → u' a = u a) → Q u') : w_X9_setAside u Q := by
  unfold w_X9_setAside
  refine s_become (k0 := 9) (k1 := 1) rfl rfl (by decide) hC.S hC.B (fun u' g1 g2 g3 => ?_)
  obtain ⟨a1, a2, a3, a4, a5, m1, m2, m3, m4, m5, m6, m7, m8, m9, m10⟩ := hC
  have h : ∀ a, (a < 9 ∨ 16 < a) → u' a = u a := fun a ha => g1 a (by omega)
  have hx := Vx.rf V W
  obtain ⟨w, w1, w2, w3⟩ := a5
  exact hq u' ⟨a1, by rw [h 0 (by omega)]; exact a2, by rw [h 0 (by omega)]; exact a3, BIs_of (fun a _ hb => h a (by omega)) a4, ⟨w, w1, by rw [h _ (by omega)]; exact w2, w3⟩, by rw [h 0 (by omega)]; exact m1, SvI_of hx (by rw [h 0 (by omega)]) (fun a _ _ => h a (by omega)) m2, HI_of hx (fun a _ _ => h a (by omega)) m3, ⟨g2, ⟨w, w1, g3.trans w2, w3⟩, fun cs e => by unfold RdC; rw [h 112 (by omega), h 113 (by omega), h 114 (by omega), h 115 (by omega)]; exact hr cs e⟩, TC_of hx (fun a _ _ => h a (by omega)) m5, TC_of hx (fun a _ _ => h a (by omega)) m6, SC_of hx (fun a _ _ => h a (by omega)) m7, TxI_of (h _ (by omega)) (h _ (by omega)) m8, TxI_of (h _ (by omega)) (h _ (by omega)) m9, WyI_of (h _ (by omega)) m10⟩ h
/-- the state comes back from a block -/
theorem s_bring {V : Nat → Cfg} {W : Nat} {u : MU} {A : Ab} {B : Bf} {i : Int32} (hC : CI V W u A B i) {k : Nat} {S : St} (hk : zkd k = 2) (hk8 : 8 < k) (hS : StOk S) (hB : BIs u k S) (hV : VIs V W u k S.cfg) {Q : MU → Prop} (hq : ∀ u', CI V W u' (A.setS S) B i → (∀ a, (a < 1 ∨ 8 < a) → u' a = u a) → Q u') : w_X6_become 1 k u Q := by
  refine s_become (k0 := 1) (k1 := k) rfl hk (by omega) hS hB (fun u' g1 g2 g3 => ?_)
  obtain ⟨w, w1, w2, w3⟩ := hV
  exact hq u' (CI_now hC (Vx.rf V W) (fun j _ => by rw [g1 0 (by omega)]) (by rw [g1 0 (by omega)]; exact hC.2.1) (fun a ha => g1 a (by omega)) hS g2 ⟨w, w1, g3.trans w2, w3⟩) (fun a ha => g1 a (by omega))
theorem zkd_h (nx : Nat) (h : nx < 8) : zkd (27 + 8 * nx) = 2 := by
  have : ∀ nx, nx < 8 → zkd (27 + 8 * nx) = 2 := by decide
  exact this nx h
theorem s_placeAt {u : MU} {nx : Nat} (h : nx < 8) {Q : Option Nat → Prop} (hq : Q (some (27 + 8 * nx))) : w_X0_placeAt u (nI nx) Q := by
  unfold w_X0_placeAt
  refine ⟨fun z => absurd z (nI_pos (by omega)), fun _ => ⟨fun _ => ⟨vp_in_nI h (by decide), ?_⟩, fun z => absurd (nI_lt (b := 8) h (by decide)) z⟩⟩
  rw [nI_clamp (by omega)]
  exact hq
theorem s_keep {V : Nat → Cfg} {W : Nat} {u : MU} {A : Ab} {S : St} {r : Option (List Cmd)} {i : Int32} (hC : CI V W u A (some (S, r)) i) (hS : StOk S) {Q : MU → Prop} (hq : ∀ u', CI V W u' (A.keep S) none i → Q u') : w_X0_keep 9 u Q := by
  have hC' := hC
  obtain ⟨a1, a2, a3, a4, a5, m1, m2, m3, m4, m5, m6, m7, m8, m9, m10⟩ := hC
  obtain ⟨h1, nx, h2, h3, h4⟩ := m3
  obtain ⟨b1, b2, -⟩ := m4
  have hl8 := a1.2.2.1
  unfold w_X0_keep
  rw [h3]
  refine s_placeAt h2 ⟨fun z => (by cases z), fun j5 e5 => ?_⟩
  cases e5
  refine ⟨zkd_h nx h2, s_become (zkd_h nx h2) rfl (by omega) hS b1 (fun u4 g1 g2 g3 a5' e5 a6 e6 => ?_)⟩
  rw [g1 25 (by omega), h3, nI_1, show nI (nx + 1) - nI (nx + 1) / 8 * 8 = nI ((nx + 1) % 8) from pk_rem (d := 8) (by omega) (by decide) (by decide)] at e5
  have x1 : a5' 25 1 = nI A.hist.length := by rw [e5, u2_o (Or.inr (by decide)), g1 25 (by omega)]; exact h1
  rw [x1, nI_1] at e6
  have x2 : (if (8 : Int32) < nI (A.hist.length + 1) then (8 : Int32) else nI (A.hist.length + 1)) = nI (push A.hist S).length := by
    rw [(push_len hl8 S).2]
    by_cases e : A.hist.length = 8
    · rw [if_pos e, e]; decide +kernel
    · rw [if_neg e, if_neg (show ¬ (8 : Int32) < nI (A.hist.length + 1) from nI_nlt (a := 8) (by omega) (by decide))]
  rw [x2] at e6
  have fr : ∀ a, a ≠ 25 → (a < 27 + 8 * nx ∨ 27 + 8 * nx + 7 < a) → a6 a = u a := fun a h25 ha => by rw [e6, u2_ne h25, e5, u2_ne h25]; exact g1 a ha
  have fb : ∀ a, a ≠ 25 → a6 a = u4 a := fun a h25 => by rw [e6, u2_ne h25, e5, u2_ne h25]
  have f : ∀ a, (a < 25 ∨ 90 < a) → a6 a = u a := fun a ha => fr a (by omega) (by omega)
  have hx := Vx.rf V W
  obtain ⟨w, w1, w2, w3⟩ := b2
  have hnew : BIs a6 (27 + 8 * nx) S ∧ VIs V W a6 (27 + 8 * nx) S.cfg := ⟨BIs_of (fun a ha hb => fb a (by omega)) g2, w, w1, by rw [fb _ (by omega)]; exact g3.trans w2, w3⟩
  have hold : ∀ (j : Nat) T, A.hist[j]? = some T → (nx + 8 - A.hist.length + j) % 8 ≠ nx → BIs a6 (hbk nx A.hist.length j) T ∧ VIs V W a6 (hbk nx A.hist.length j) T.cfg := fun j T hj hne => by
    obtain ⟨p1, p2⟩ := h4 j T hj
    have hd : ∀ a, hbk nx A.hist.length j ≤ a → a ≤ hbk nx A.hist.length j + 7 → a6 a = u a := fun a ha hb => by
      unfold hbk at ha hb
      exact fr a (by omega) (by omega)
    exact ⟨BIs_of hd p1, VIs_of hx (by rw [hd _ (by omega) (by omega)]) p2⟩
  refine hq a6 ⟨⟨a1.1, a1.2.1, (push_len hl8 S).1, fun T hT => ?_, a1.2.2.2.2⟩, by rw [f 0 (by omega)]; exact a2, by rw [f 0 (by omega)]; exact a3, BIs_of (fun a _ hb => f a (by omega)) a4, VIs_of hx (by rw [f _ (by omega)]) a5, by rw [f 0 (by omega)]; exact m1, SvI_of hx (by rw [f 0 (by omega)]) (fun a _ _ => f a (by omega)) m2, ⟨?_, (nx + 1) % 8, Nat.mod_lt _ (by decide), ?_, fun j T hj => ?_⟩, trivial, TC_of hx (fun a _ _ => f a (by omega)) m5, TC_of hx (fun a _ _ => f a (by omega)) m6, SC_of hx (fun a _ _ => f a (by omega)) m7, TxI_of (f _ (by omega)) (f _ (by omega)) m8, TxI_of (f _ (by omega)) (f _ (by omega)) m9, WyI_of (f _ (by omega)) m10⟩
  · rcases push_mem hT with z | z
    · exact a1.2.2.2.1 T z
    · rw [z]; exact hS
  · rw [e6, u2_at]; rfl
  · rw [e6, u2_o (Or.inr (by decide)), e5, u2_at]
  · have hj' : (push A.hist S)[j]? = some T := hj
    have hjl := (List.getElem?_eq_some_iff.mp hj').1
    have hlen := (push_len hl8 S).2
    show BIs a6 (hbk ((nx + 1) % 8) (push A.hist S).length j) T ∧ VIs V W a6 (hbk ((nx + 1) % 8) (push A.hist S).length j) T.cfg
    unfold push at hj'
    by_cases e : A.hist.length = 8
    · rw [if_pos e] at hj' hlen
      rw [hlen] at hjl ⊢
      rcases Nat.lt_or_ge j 7 with z | z
      · rw [List.getElem?_append_left (by rw [List.length_tail]; omega), List.getElem?_tail] at hj'
        have := hold (j + 1) T hj' (by omega)
        have eb : hbk ((nx + 1) % 8) 8 j = hbk nx A.hist.length (j + 1) := by unfold hbk; omega
        rw [eb]; exact this
      · have j7 : j = 7 := by omega
        subst j7
        rw [List.getElem?_append_right (by rw [List.length_tail]; omega), List.length_tail, e] at hj'
        cases hj'
        have eb : hbk ((nx + 1) % 8) 8 7 = 27 + 8 * nx := by unfold hbk; omega
        rw [eb]; exact hnew
    · rw [if_neg e] at hj' hlen
      rw [hlen] at hjl ⊢
      rcases Nat.lt_or_ge j A.hist.length with z | z
      · rw [List.getElem?_append_left z] at hj'
        have := hold j T hj' (by omega)
        have eb : hbk ((nx + 1) % 8) (A.hist.length + 1) j = hbk nx A.hist.length j := by unfold hbk; omega
        rw [eb]; exact this
      · have jl : j = A.hist.length := by omega
        subst jl
        rw [List.getElem?_append_right (Nat.le_refl _), Nat.sub_self] at hj'
        cases hj'
        have eb : hbk ((nx + 1) % 8) (A.hist.length + 1) A.hist.length = 27 + 8 * nx := by unfold hbk; omega
        rw [eb]; exact hnew
/-- a call that changes, whole: refused, or kept -/
def CSet (V : Nat → Cfg) (W : Nat) (A : Ab) (Q : Int32 → MU → Prop) (X : String → MU → Prop) : Rs → Prop
  | .inl (w, d) => ∀ u', CI V W u' (A.setWhy w d 0) none 0 → X "java/lang/UnsupportedOperationException" u'
  | .inr (a, S) => ∀ V' W' u', W' ≤ W + 1 → CI V' W' u' ((A.setS S).keep A.S) none 0 → Q (nI a) u'
theorem opAns {a : Nat} (h : a < 2 ^ 31) : ¬ nI a = -1 := fun z => absurd m1_lt (by rw [← z]; exact nI_pos h)
theorem s_change {V : Nat → Cfg} {W : Nat} {u : MU} {A : Ab} {wop : MU → (Int32 → MU → Prop) → Prop} {r : Rs} (hop : ∀ u Q, CI V W u A (some (A.S, none)) 0 → CRes V W A (some (A.S, none)) 0 Q r → wop u Q) (hr : ∀ a S, r = .inr (a, S) → a < 2 ^ 31) (hC : CI V W u A none 0) {Q : Int32 → MU → Prop} {X : String → MU → Prop} (hq : CSet V W A Q X r) :
    w_X9_setAside u (fun u_2 => wop u_2 (fun r_3 u_4 => w_X9_settled r_3 u_4 (fun r_5 u_6 => Q r_5 u_6) X)) := by
  have hS := hC.S
  refine s_setAside hC (r := none) (fun cs e => by cases e) (fun u2' c2 _ => hop u2' _ c2 ?_)
  cases r with
  | inl z =>
    obtain ⟨w, d⟩ := z
    intro u4 c4
    unfold w_X9_settled
    refine ⟨fun z => absurd rfl z, fun _ => ?_⟩
    obtain ⟨b1, b2, -⟩ := c4.M.2.2.2.1
    exact s_bring c4 (k := 9) rfl (by decide) hS b1 b2 (fun u5 c5 _ => hq u5 (CI_drop c5))
  | inr z =>
    obtain ⟨a, S⟩ := z
    intro V' W' u4 hW c4
    unfold w_X9_settled
    refine ⟨fun _ => ?_, fun z => absurd z (opAns (hr a S rfl))⟩
    exact s_keep c4 hS (fun u5 c5 => hq V' W' u5 hW c5)
