/-! the class: undo, save, restore -/
def Ab.setH (A : Ab) (h : List St) : Ab := mkA A.S A.sv h A.text A.line A.why A.fault
def Ab.setV (A : Ab) (s : Option St) : Ab := mkA A.S s A.hist A.text A.line A.why A.fault
theorem CI_hist {V : Nat → Cfg} {W : Nat} {u u' : MU} {A : Ab} {B : Bf} {i : Int32} {h : List St} (hC : CI V W u A B i) (f : ∀ a, a ≠ 25 → u' a = u a) (hH : HI V W u' h) (hl : h.length ≤ 8) (hS : ∀ S, S ∈ h → StOk S) : CI V W u' (A.setH h) B i := by
  obtain ⟨a1, a2, a3, a4, a5, m1, m2, m3, m4, m5, m6, m7, m8, m9, m10⟩ := hC
  have hx := Vx.rf V W
  exact ⟨⟨a1.1, a1.2.1, hl, hS, a1.2.2.2.2⟩, by rw [f 0 (by omega)]; exact a2, by rw [f 0 (by omega)]; exact a3, BIs_of (fun a _ hb => f a (by omega)) a4, VIs_of hx (by rw [f _ (by omega)]) a5, by rw [f 0 (by omega)]; exact m1, SvI_of hx (by rw [f 0 (by omega)]) (fun a _ _ => f a (by omega)) m2, hH, BfI_of hx (fun a _ _ => f a (by omega)) m4, TC_of hx (fun a _ _ => f a (by omega)) m5, TC_of hx (fun a _ _ => f a (by omega)) m6, SC_of hx (fun a _ _ => f a (by omega)) m7, TxI_of (f _ (by omega)) (f _ (by omega)) m8, TxI_of (f _ (by omega)) (f _ (by omega)) m9, WyI_of (f _ (by omega)) m10⟩
abbrev Ans : Type := Nat × (Int32 × Ab)
def a_change (A : Ab) : Rs → Ans
  | .inl (w, d) => (1, (0, A.setWhy w d 0))
  | .inr (a, S) => (0, (nI a, (A.setS S).keep A.S))
def a_undo (A : Ab) : Ans := match A.hist.getLast? with
  | none => (1, (0, A))
  | some S => (0, (nI (A.hist.length - 1), (A.setS S).setH A.hist.dropLast))
def a_save (A : Ab) : Ans := (0, (nI A.S.n, A.setV (some A.S)))
def a_restore (A : Ab) : Ans := match A.sv with
  | none => (1, (0, A))
  | some S => (0, (nI S.n, (A.setS S).setH []))
/-- what the law's catching methods leave: how it ended, and the answer -/
def LPost (W : Nat) (k : Ans) (Q : Int32 → MU → (Nat → Int64) → Prop) : Prop := ∀ V' W' u' o', W' ≤ W + 40 → CI V' W' u' k.2.2 none 0 → (k.1 = 0 → o' 0 = k.2.1.toInt64) → Q (nI k.1) u' o'
theorem LPost.ret {V : Nat → Cfg} {W W' : Nat} {u : MU} {o : Nat → Int64} {x : Int32} {A : Ab} {k : Ans} {Q : Int32 → MU → (Nat → Int64) → Prop} (hq : LPost W k Q) (hW : W' ≤ W + 40) (hk : k = (0, (x, A))) (hC : CI V W' u A none 0) : Q 0 u (vp_updL o ((0 : Int32)).toNatClampNeg x.toInt64) := by
  subst hk
  exact hq V W' u _ hW hC (fun _ => by show vp_updL o 0 x.toInt64 0 = x.toInt64; unfold vp_updL; rw [if_pos rfl])
theorem LPost.exc {V : Nat → Cfg} {W W' : Nat} {u : MU} {o : Nat → Int64} {x : Int32} {A : Ab} {k : Ans} {j : Nat} {Q : Int32 → MU → (Nat → Int64) → Prop} (hq : LPost W k Q) (hW : W' ≤ W + 40) (hk : k = (j + 1, (x, A))) (hC : CI V W' u A none 0) : Q (nI (j + 1)) u o := by
  subst hk
  exact hq V W' u o hW hC (fun z => by omega)
theorem LPost.change {V : Nat → Cfg} {W : Nat} {A : Ab} {r : Rs} {o : Nat → Int64} {Q : Int32 → MU → (Nat → Int64) → Prop} (hq : LPost W (a_change A r) Q) : CSet V W A (fun r u1 => Q 0 u1 (vp_updL o ((0 : Int32)).toNatClampNeg r.toInt64)) (fun E u1 => (E = "java/lang/UnsupportedOperationException" ∧ Q (1 : Int32) u1 o)) r := by
  cases r with
  | inl z =>
    obtain ⟨w, d⟩ := z
    exact fun u' c => ⟨rfl, LPost.exc (j := 0) hq (by omega) rfl c⟩
  | inr z =>
    obtain ⟨a, S⟩ := z
    exact fun V' W' u' hW c => LPost.ret hq (by omega) rfl c
theorem L_undo {V : Nat → Cfg} {W : Nat} {u : MU} {A : Ab} {o : Nat → Int64} {Q : Int32 → MU → (Nat → Int64) → Prop} (hC : CI V W u A none 0) (hq : LPost W (a_undo A) Q) : w_L_undo u o Q := by
  obtain ⟨h1, nx, h2, h3, h4⟩ := hC.M.2.2.1
  have hl8 := hC.ok.2.2.1
  unfold w_L_undo w_X9_undo
  rw [h1]
  by_cases e : A.hist.length = 0
  · have he : A.hist = [] := List.length_eq_zero_iff.mp e
    have ha : a_undo A = (1, (0, A)) := by unfold a_undo; rw [he]; rfl
    rw [e]
    exact ⟨fun z => absurd rfl z, fun _ => ⟨rfl, LPost.exc (j := 0) hq (by omega) ha hC⟩⟩
  · refine ⟨fun _ => ?_, fun z => absurd z (nI_ne0 (by omega) (by omega))⟩
    have hget : A.hist[A.hist.length - 1]? = some A.hist[A.hist.length - 1] := List.getElem?_eq_getElem (by omega)
    have ha : a_undo A = (0, (nI (A.hist.length - 1), (A.setS A.hist[A.hist.length - 1]).setH A.hist.dropLast)) := by
      unfold a_undo
      rw [List.getLast?_eq_getElem?, hget]
    generalize A.hist[A.hist.length - 1] = S at hget ha
    obtain ⟨b1, b2⟩ := h4 _ S hget
    have eb : hbk nx A.hist.length (A.hist.length - 1) = 27 + 8 * ((nx + 7) % 8) := by unfold hbk; omega
    rw [eb] at b1 b2
    have hSok := hC.ok.2.2.2.1 S (List.mem_of_getElem? hget)
    unfold w_X0_takeInto
    intro x2 hx2
    have ex : x2 = nI ((nx + 7) % 8) := by
      rw [hx2, h3, show (8 : Int32) = nI 8 from rfl, nI_add, show nx + 8 = nx + 7 + 1 by omega, nI_pred]
      exact pk_rem (d := 8) (by omega) (by decide) (by decide)
    rw [ex]
    refine s_placeAt (Nat.mod_lt _ (by decide)) ⟨fun z => (by cases z), fun j e5 => ?_⟩
    cases e5
    refine ⟨zkd_h _ (Nat.mod_lt _ (by decide)), fun z => absurd z (by rw [h1]; exact nI_ne0 (by omega) (by omega)), fun _ => s_bring hC (zkd_h _ (Nat.mod_lt _ (by decide))) (by omega) hSok b1 b2 (fun u7 c7 f7 a8 e8 a9 e9 => ?_)⟩
    have x1 : a9 25 1 = nI (A.hist.length - 1) := by
      rw [e9, u2_at, e8, u2_o (Or.inr (by decide)), f7 25 (by omega), h1, nI_pr (by omega)]
    have f9 : ∀ a, a ≠ 25 → a9 a = u7 a := fun a ha => by rw [e9, u2_ne ha, e8, u2_ne ha]
    show Q 0 a9 (vp_updL o ((0 : Int32)).toNatClampNeg (a9 25 1).toInt64)
    rw [x1]
    refine LPost.ret hq (W' := W) (by omega) ha (CI_hist c7 f9 ⟨by rw [List.length_dropLast]; exact x1, (nx + 7) % 8, Nat.mod_lt _ (by decide), ?_, fun j T hj => ?_⟩ (by rw [List.length_dropLast]; omega) (fun T hT => hC.ok.2.2.2.1 T ((List.dropLast_sublist _).mem hT)))
    · rw [e9, u2_o (Or.inr (by decide)), e8, u2_at]
    · have hjl := (List.getElem?_eq_some_iff.mp hj).1
      rw [List.length_dropLast] at hjl
      rw [List.getElem?_dropLast, if_pos hjl] at hj
      obtain ⟨p1, p2⟩ := h4 j T hj
      have eb2 : hbk ((nx + 7) % 8) A.hist.dropLast.length j = hbk nx A.hist.length j := by rw [List.length_dropLast]; unfold hbk; omega
      have hd : ∀ a, hbk nx A.hist.length j ≤ a → a ≤ hbk nx A.hist.length j + 7 → a9 a = u a := fun a ha hb => by
        have := hbk_in nx A.hist.length j
        rw [f9 a (by omega)]; exact f7 a (by omega)
      rw [eb2]
      exact ⟨BIs_of hd p1, VIs_of (Vx.rf V W) (by rw [hd _ (by omega) (by omega)]) p2⟩
theorem C_save {V : Nat → Cfg} {W : Nat} {u : MU} {A : Ab} {Q : Int32 → MU → Prop} (hC : CI V W u A none 0) (hq : ∀ u', CI V W u' (A.setV (some A.S)) none 0 → Q (nI A.S.n) u') : w_X9_save u Q := by
  unfold w_X9_save
  refine s_become (k0 := 17) (k1 := 1) rfl rfl (by decide) hC.S hC.B (fun u2' g1 g2 g3 a3' e3 => ?_)
  obtain ⟨a1, a2, a3, a4, a5, m1, m2, m3, m4, m5, m6, m7, m8, m9, m10⟩ := hC
  have h : ∀ a, a ≠ 0 → (a < 17 ∨ 24 < a) → a3' a = u a := fun a h0 ha => by rw [e3, u2_ne h0]; exact g1 a (by omega)
  have h0 : ∀ j, j ≠ 3 → a3' 0 j = u 0 j := fun j hj => by rw [e3, u2_o (Or.inr hj), g1 0 (by omega)]
  have hb : ∀ a, a ≠ 0 → a3' a = u2' a := fun a h0 => by rw [e3]; exact u2_ne h0
  have hx := Vx.rf V W
  have e20 : a3' 2 0 = nI A.S.n := by rw [h 2 (by decide) (by omega)]; exact a4.1.1
  obtain ⟨w, w1, w2, w3⟩ := a5
  rw [e20]
  exact hq a3' ⟨⟨a1.1, fun S e => by cases e; exact a1.1, a1.2.2⟩, by rw [h0 15 (by decide)]; exact a2, by rw [h0 14 (by decide)]; exact a3, BIs_of (fun a _ hb => h a (by omega) (by omega)) a4, ⟨w, w1, by rw [h _ (by omega) (by omega)]; exact w2, w3⟩, by rw [h0 13 (by decide)]; exact m1, ⟨by rw [e3, u2_at], BIs_of (fun a _ _ => hb a (by omega)) g2, w, w1, by rw [hb _ (by omega)]; exact g3.trans w2, w3⟩, HI_of hx (fun a _ _ => h a (by omega) (by omega)) m3, trivial, TC_of hx (fun a _ _ => h a (by omega) (by omega)) m5, TC_of hx (fun a _ _ => h a (by omega) (by omega)) m6, SC_of hx (fun a _ _ => h a (by omega) (by omega)) m7, TxI_of (h _ (by omega) (by omega)) (h _ (by omega) (by omega)) m8, TxI_of (h _ (by omega) (by omega)) (h _ (by omega) (by omega)) m9, WyI_of (h _ (by omega) (by omega)) m10⟩
theorem L_restore {V : Nat → Cfg} {W : Nat} {u : MU} {A : Ab} {o : Nat → Int64} {Q : Int32 → MU → (Nat → Int64) → Prop} (hC : CI V W u A none 0) (hq : LPost W (a_restore A) Q) : w_L_restore u o Q := by
  have m2 := hC.M.2.1
  unfold a_restore at hq
  unfold w_L_restore w_X9_restore
  cases hs : A.sv with
  | none =>
    rw [hs] at m2 hq
    exact ⟨fun z => absurd m2 z, fun _ => ⟨rfl, LPost.exc (j := 0) hq (by omega) rfl hC⟩⟩
  | some S =>
    rw [hs] at m2 hq
    obtain ⟨p1, p2, p3⟩ := m2
    have hS := hC.ok.2.1 S hs
    refine ⟨fun _ => s_bring hC (k := 17) rfl (by decide) hS p2 p3 (fun u3 c3 f3 a4 e4 => ?_), fun z => absurd (p1.symm.trans z) (by decide)⟩
    obtain ⟨h1, nx, h2, h3, h4⟩ := c3.M.2.2.1
    have f4 : ∀ a, a ≠ 25 → a4 a = u3 a := fun a ha => by rw [e4]; exact u2_ne ha
    have e20 : a4 2 0 = nI S.n := by rw [f4 2 (by decide)]; exact c3.B.1.1
    rw [e20]
    refine LPost.ret hq (W' := W) (by omega) rfl (CI_hist c3 f4 ⟨by rw [e4, u2_at]; rfl, nx, h2, by rw [e4, u2_o (Or.inr (by decide))]; exact h3, fun j T hj => by simp at hj⟩ (by decide) (fun T hT => absurd hT List.not_mem_nil))
