/-! THE CLASS shows the abstract machine -/
/-- a table is empty, or it shows the solution of its version's configuration -/
def TC (V : Nat → Cfg) (W : Nat) (u : MU) (k : Nat) : Prop := u k 1 = -1 ∨ ∃ w, w ≤ W ∧ u k 1 = nI w ∧ CfgOk (V w) ∧ TbIs u k (V w) (slv (V w))
def SC (V : Nat → Cfg) (W : Nat) (u : MU) : Prop := u 105 0 = -1 ∨ ∃ w, w ≤ W ∧ u 105 0 = nI w ∧ CfgOk (V w) ∧ OcI u (V w) (fun q => oc (slv (V w) q))
/-- block number j of n changes that are kept, the next one at nx -/
def hbk (nx n j : Nat) : Nat := 27 + 8 * ((nx + 8 - n + j) % 8)
def HI (V : Nat → Cfg) (W : Nat) (u : MU) (h : List St) : Prop := u 25 1 = nI h.length ∧ ∃ nx, nx < 8 ∧ u 25 2 = nI nx ∧ ∀ (j : Nat) S, h[j]? = some S → BIs u (hbk nx h.length j) S ∧ VIs V W u (hbk nx h.length j) S.cfg
def SvI (V : Nat → Cfg) (W : Nat) (u : MU) (s : Option St) : Prop := match s with
  | none => u 0 3 = 0
  | some S => u 0 3 = 1 ∧ BIs u 17 S ∧ VIs V W u 17 S.cfg
abbrev Cmd : Type := Nat × (Nat × Nat)
/-- the reader's rows show the commands -/
def RdC (u : MU) (cs : List Cmd) : Prop := u 112 0 = nI cs.length ∧ ∀ (m : Nat) c, cs[m]? = some c → u 113 m = nI c.1 ∧ u 114 m = nI c.2.1 ∧ u 115 m = nI c.2.2
/-- what was set aside, and the commands that are carried out -/
abbrev Bf : Type := Option (St × Option (List Cmd))
def BfI (V : Nat → Cfg) (W : Nat) (u : MU) (s : Bf) : Prop := match s with
  | none => True
  | some (S, r) => BIs u 9 S ∧ VIs V W u 9 S.cfg ∧ ∀ cs, r = some cs → RdC u cs
def TxI (u : MU) (k : Nat) (t : List Int32) : Prop := u k 0 = nI t.length ∧ ∀ (i : Nat) x, t[i]? = some x → u (k + 1) i = x
def WyI (u : MU) (w : Option (Int32 × (Int32 × Int32))) : Prop := match w with
  | none => u 116 0 = 0
  | some (w, (d, i)) => u 116 0 = 1 ∧ u 116 1 = w ∧ u 116 2 = d ∧ u 116 3 = i
/-- what is beside the state -/
def CMem (V : Nat → Cfg) (W : Nat) (u : MU) (A : Ab) (B : Bf) : Prop := u 0 13 = A.fault ∧ SvI V W u A.sv ∧ HI V W u A.hist ∧ BfI V W u B ∧ TC V W u 95 ∧ TC V W u 100 ∧ SC V W u ∧ TxI u 108 A.text ∧ TxI u 110 A.line ∧ WyI u A.why
def CI (V : Nat → Cfg) (W : Nat) (u : MU) (A : Ab) (B : Bf) (i : Int32) : Prop := AbOk A ∧ u 0 15 = nI W ∧ u 0 14 = i ∧ BIs u 1 A.S ∧ VIs V W u 1 A.S.cfg ∧ CMem V W u A B
theorem CI.ok {V : Nat → Cfg} {W : Nat} {u : MU} {A : Ab} {B : Bf} {i : Int32} (h : CI V W u A B i) : AbOk A := h.1
theorem CI.S {V : Nat → Cfg} {W : Nat} {u : MU} {A : Ab} {B : Bf} {i : Int32} (h : CI V W u A B i) : StOk A.S := h.1.1
theorem CI.c {V : Nat → Cfg} {W : Nat} {u : MU} {A : Ab} {B : Bf} {i : Int32} (h : CI V W u A B i) : CfgOk A.S.cfg := h.1.1.cfg
theorem CI.B {V : Nat → Cfg} {W : Nat} {u : MU} {A : Ab} {B : Bf} {i : Int32} (h : CI V W u A B i) : BIs u 1 A.S := h.2.2.2.1
theorem CI.F {V : Nat → Cfg} {W : Nat} {u : MU} {A : Ab} {B : Bf} {i : Int32} (h : CI V W u A B i) : FIs u 2 A.S.cfg := h.2.2.2.1.1
theorem CI.V {V : Nat → Cfg} {W : Nat} {u : MU} {A : Ab} {B : Bf} {i : Int32} (h : CI V W u A B i) : VIs V W u 1 A.S.cfg := h.2.2.2.2.1
theorem CI.M {V : Nat → Cfg} {W : Nat} {u : MU} {A : Ab} {B : Bf} {i : Int32} (h : CI V W u A B i) : CMem V W u A B := h.2.2.2.2.2
theorem TbIs_of {u u' : MU} {k : Nat} {c : Cfg} {f : Nat → Nat} (h : ∀ a, k ≤ a → a ≤ k + 4 → u' a = u a) (hT : TbIs u k c f) : TbIs u' k c f := by
  obtain ⟨h1, h2, h3⟩ := hT
  refine ⟨?_, RowL_of (h _ (by omega) (by omega)) h2, fun q hq => ?_⟩
  · rw [h k (by omega) (by omega)]; exact h1
  · rw [h (k + 3) (by omega) (by omega)]; exact h3 q hq
theorem TC_of {V V' : Nat → Cfg} {W W' : Nat} {u u' : MU} {k : Nat} (hx : Vx V W V' W') (h : ∀ a, k ≤ a → a ≤ k + 4 → u' a = u a) (hT : TC V W u k) : TC V' W' u' k := by
  rcases hT with z | ⟨w, h1, h2, h3, h4⟩
  · exact Or.inl (by rw [h k (by omega) (by omega)]; exact z)
  · refine Or.inr ⟨w, Nat.le_trans h1 hx.1, by rw [h k (by omega) (by omega)]; exact h2, by rw [hx.2 w h1]; exact h3, ?_⟩
    rw [hx.2 w h1]
    exact TbIs_of h h4
theorem SC_of {V V' : Nat → Cfg} {W W' : Nat} {u u' : MU} (hx : Vx V W V' W') (h : ∀ a, 105 ≤ a → a ≤ 107 → u' a = u a) (hT : SC V W u) : SC V' W' u' := by
  rcases hT with z | ⟨w, h1, h2, h3, h4⟩
  · exact Or.inl (by rw [h 105 (by omega) (by omega)]; exact z)
  · refine Or.inr ⟨w, Nat.le_trans h1 hx.1, by rw [h 105 (by omega) (by omega)]; exact h2, by rw [hx.2 w h1]; exact h3, fun q hq => ?_⟩
    rw [hx.2 w h1] at hq ⊢
    rw [h 107 (by omega) (by omega)]
    exact h4 q hq
theorem hbk_in (nx n j : Nat) : 27 ≤ hbk nx n j ∧ hbk nx n j + 7 ≤ 90 := by unfold hbk; omega
theorem HI_of {V V' : Nat → Cfg} {W W' : Nat} {u u' : MU} {hs : List St} (hx : Vx V W V' W') (h : ∀ a, 25 ≤ a → a ≤ 90 → u' a = u a) (hH : HI V W u hs) : HI V' W' u' hs := by
  obtain ⟨h1, nx, h2, h3, h4⟩ := hH
  refine ⟨by rw [h 25 (by omega) (by omega)]; exact h1, nx, h2, by rw [h 25 (by omega) (by omega)]; exact h3, fun j S hj => ?_⟩
  obtain ⟨h5, h6⟩ := h4 j S hj
  have := hbk_in nx hs.length j
  exact ⟨BIs_of (fun a ha hb => h a (by omega) (by omega)) h5, VIs_of hx (by rw [h _ (by omega) (by omega)]) h6⟩
theorem SvI_of {V V' : Nat → Cfg} {W W' : Nat} {u u' : MU} {s : Option St} (hx : Vx V W V' W') (h0 : u' 0 3 = u 0 3) (h : ∀ a, 17 ≤ a → a ≤ 24 → u' a = u a) (hH : SvI V W u s) : SvI V' W' u' s := by
  unfold SvI at hH ⊢
  cases s with
  | none => exact h0.trans hH
  | some S => exact ⟨h0.trans hH.1, BIs_of (fun a ha hb => h a (by omega) (by omega)) hH.2.1, VIs_of hx (by rw [h _ (by omega) (by omega)]) hH.2.2⟩
theorem BfI_of {V V' : Nat → Cfg} {W W' : Nat} {u u' : MU} {s : Bf} (hx : Vx V W V' W') (h : ∀ a, 9 ≤ a → (a ≤ 16 ∨ 112 ≤ a ∧ a ≤ 115) → u' a = u a) (hH : BfI V W u s) : BfI V' W' u' s := by
  unfold BfI at hH ⊢
  cases s with
  | none => exact trivial
  | some z =>
    obtain ⟨S, r⟩ := z
    refine ⟨BIs_of (fun a ha hb => h a (by omega) (by omega)) hH.1, VIs_of hx (by rw [h _ (by omega) (by omega)]) hH.2.1, fun cs e => ?_⟩
    obtain ⟨r1, r2⟩ := hH.2.2 cs e
    unfold RdC
    rw [h 112 (by omega) (by omega), h 113 (by omega) (by omega), h 114 (by omega) (by omega), h 115 (by omega) (by omega)]
    exact ⟨r1, r2⟩
theorem TxI_of {u u' : MU} {k : Nat} {t : List Int32} (h0 : u' k = u k) (h1 : u' (k + 1) = u (k + 1)) (hT : TxI u k t) : TxI u' k t := by
  unfold TxI at hT ⊢
  rw [h0, h1]
  exact hT
theorem WyI_of {u u' : MU} {w : Option (Int32 × (Int32 × Int32))} (h : u' 116 = u 116) (hW : WyI u w) : WyI u' w := by
  unfold WyI at hW ⊢
  rw [h]
  exact hW
/-- what is beside the state is kept while the state changes -/
theorem CMem_of {V V' : Nat → Cfg} {W W' : Nat} {u u' : MU} {A : Ab} {B : Bf} (hx : Vx V W V' W') (h0 : ∀ j, j ≠ 14 → j ≠ 15 → u' 0 j = u 0 j) (h : ∀ a, 9 ≤ a → u' a = u a) (hM : CMem V W u A B) : CMem V' W' u' A B := by
  obtain ⟨m1, m2, m3, m4, m5, m6, m7, m8, m9, m10⟩ := hM
  exact ⟨(h0 13 (by decide) (by decide)).trans m1, SvI_of hx (h0 3 (by decide) (by decide)) (fun a ha _ => h a (by omega)) m2, HI_of hx (fun a ha _ => h a (by omega)) m3, BfI_of hx (fun a ha _ => h a (by omega)) m4, TC_of hx (fun a ha _ => h a (by omega)) m5, TC_of hx (fun a ha _ => h a (by omega)) m6, SC_of hx (fun a ha _ => h a (by omega)) m7, TxI_of (h _ (by omega)) (h _ (by omega)) m8, TxI_of (h _ (by omega)) (h _ (by omega)) m9, WyI_of (h _ (by omega)) m10⟩
/-- the state changes, nothing else -/
theorem CI_now {V V' : Nat → Cfg} {W W' : Nat} {u u' : MU} {A : Ab} {B : Bf} {i : Int32} {S : St} (hC : CI V W u A B i) (hx : Vx V W V' W') (h0 : ∀ j, j ≠ 15 → u' 0 j = u 0 j) (hW : u' 0 15 = nI W') (h : ∀ a, 9 ≤ a → u' a = u a) (hS : StOk S) (hB : BIs u' 1 S) (hV : VIs V' W' u' 1 S.cfg) : CI V' W' u' (A.setS S) B i := by
  obtain ⟨a1, a2, a3, a4, a5, a6⟩ := hC
  exact ⟨⟨hS, a1.2⟩, hW, (h0 14 (by decide)).trans a3, hB, hV, CMem_of hx (fun j _ h15 => h0 j h15) h a6⟩
/-- the reason changes -/
theorem CI_why {V : Nat → Cfg} {W : Nat} {u u' : MU} {A : Ab} {B : Bf} {i : Int32} {w d x : Int32} (hC : CI V W u A B i) (h : ∀ a, a ≠ 116 → u' a = u a) (hw : WyI u' (some (w, (d, x)))) (h0 : ¬ w = 0) : CI V W u' (A.setWhy w d x) B i := by
  obtain ⟨a1, a2, a3, a4, a5, m1, m2, m3, m4, m5, m6, m7, m8, m9, m10⟩ := hC
  have hx := Vx.rf V W
  refine ⟨⟨a1.1, a1.2.1, a1.2.2.1, a1.2.2.2.1, a1.2.2.2.2.1, a1.2.2.2.2.2.1, a1.2.2.2.2.2.2.1, a1.2.2.2.2.2.2.2.1, fun w' d' i' e => by cases e; exact h0⟩, by rw [h 0 (by decide)]; exact a2, by rw [h 0 (by decide)]; exact a3, BIs_of (fun a _ hb => h a (by omega)) a4, VIs_of hx (by rw [h _ (by decide)]) a5, by rw [h 0 (by decide)]; exact m1, SvI_of hx (by rw [h 0 (by decide)]) (fun a _ _ => h a (by omega)) m2, HI_of hx (fun a _ _ => h a (by omega)) m3, BfI_of hx (fun a _ _ => h a (by omega)) m4, TC_of hx (fun a _ _ => h a (by omega)) m5, TC_of hx (fun a _ _ => h a (by omega)) m6, SC_of hx (fun a _ _ => h a (by omega)) m7, TxI_of (h _ (by decide)) (h _ (by decide)) m8, TxI_of (h _ (by decide)) (h _ (by decide)) m9, hw⟩
/-- a table is solved anew -/
theorem CI_tab {V : Nat → Cfg} {W : Nat} {u u' : MU} {A : Ab} {B : Bf} {i : Int32} {k : Nat} (hk : k = 95 ∨ k = 100) (hC : CI V W u A B i) (h : ∀ a, (a < k ∨ k + 4 < a) → u' a = u a) (hT : TC V W u' k) : CI V W u' A B i := by
  obtain ⟨a1, a2, a3, a4, a5, m1, m2, m3, m4, m5, m6, m7, m8, m9, m10⟩ := hC
  have hx := Vx.rf V W
  refine ⟨a1, by rw [h 0 (by omega)]; exact a2, by rw [h 0 (by omega)]; exact a3, BIs_of (fun a _ hb => h a (by omega)) a4, VIs_of hx (by rw [h _ (by omega)]) a5, by rw [h 0 (by omega)]; exact m1, SvI_of hx (by rw [h 0 (by omega)]) (fun a _ _ => h a (by omega)) m2, HI_of hx (fun a _ _ => h a (by omega)) m3, BfI_of hx (fun a _ _ => h a (by omega)) m4, ?_, ?_, SC_of hx (fun a _ _ => h a (by omega)) m7, TxI_of (h _ (by omega)) (h _ (by omega)) m8, TxI_of (h _ (by omega)) (h _ (by omega)) m9, WyI_of (h _ (by omega)) m10⟩
  · rcases hk with z | z
    · rw [z] at hT; exact hT
    · exact TC_of hx (fun a _ _ => h a (by omega)) m5
  · rcases hk with z | z
    · exact TC_of hx (fun a _ _ => h a (by omega)) m6
    · rw [z] at hT; exact hT
theorem CI_sec {V : Nat → Cfg} {W : Nat} {u u' : MU} {A : Ab} {B : Bf} {i : Int32} (hC : CI V W u A B i) (h : SF u u') (hT : SC V W u') : CI V W u' A B i := by
  obtain ⟨a1, a2, a3, a4, a5, m1, m2, m3, m4, m5, m6, m7, m8, m9, m10⟩ := hC
  have hx := Vx.rf V W
  have h' : ∀ a, a < 105 ∨ 107 < a → u' a = u a := fun a ha => h a (by omega) (by omega) (by omega)
  exact ⟨a1, by rw [h' 0 (by omega)]; exact a2, by rw [h' 0 (by omega)]; exact a3, BIs_of (fun a _ hb => h' a (by omega)) a4, VIs_of hx (by rw [h' _ (by omega)]) a5, by rw [h' 0 (by omega)]; exact m1, SvI_of hx (by rw [h' 0 (by omega)]) (fun a _ _ => h' a (by omega)) m2, HI_of hx (fun a _ _ => h' a (by omega)) m3, BfI_of hx (fun a _ _ => h' a (by omega)) m4, TC_of hx (fun a _ _ => h' a (by omega)) m5, TC_of hx (fun a _ _ => h' a (by omega)) m6, hT, TxI_of (h' _ (by omega)) (h' _ (by omega)) m8, TxI_of (h' _ (by omega)) (h' _ (by omega)) m9, WyI_of (h' _ (by omega)) m10⟩
/-- objects that no relation looks at: the trial field, the reader -/
theorem CI_aside {V : Nat → Cfg} {W : Nat} {u u' : MU} {A : Ab} {i : Int32} (hC : CI V W u A none i) (h : ∀ a, (a < 91 ∨ 94 < a) → (a < 112 ∨ 115 < a) → u' a = u a) : CI V W u' A none i := by
  obtain ⟨a1, a2, a3, a4, a5, m1, m2, m3, m4, m5, m6, m7, m8, m9, m10⟩ := hC
  have hx := Vx.rf V W
  exact ⟨a1, by rw [h 0 (by omega) (by omega)]; exact a2, by rw [h 0 (by omega) (by omega)]; exact a3, BIs_of (fun a _ hb => h a (by omega) (by omega)) a4, VIs_of hx (by rw [h _ (by omega) (by omega)]) a5, by rw [h 0 (by omega) (by omega)]; exact m1, SvI_of hx (by rw [h 0 (by omega) (by omega)]) (fun a _ _ => h a (by omega) (by omega)) m2, HI_of hx (fun a _ _ => h a (by omega) (by omega)) m3, trivial, TC_of hx (fun a _ _ => h a (by omega) (by omega)) m5, TC_of hx (fun a _ _ => h a (by omega) (by omega)) m6, SC_of hx (fun a _ _ => h a (by omega) (by omega)) m7, TxI_of (h _ (by omega) (by omega)) (h _ (by omega) (by omega)) m8, TxI_of (h _ (by omega) (by omega)) (h _ (by omega) (by omega)) m9, WyI_of (h _ (by omega) (by omega)) m10⟩
