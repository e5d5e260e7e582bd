/-! the class: the text buffer, the reason, the line -/
theorem chI_fix {x : Int32} (h : chI x) : (x.toUInt32 % 65536).toInt32 = x := by
  obtain ⟨n, hn, rfl⟩ := h
  rw [pk_char]
  have : (nI n).toBitVec.toNat = n := by
    show (BitVec.ofNat 32 n).toNat = n
    rw [BitVec.toNat_ofNat, Nat.mod_eq_of_lt (by omega)]
  rw [this, Nat.mod_eq_of_lt hn]
theorem chI_nar {x : Int32} (h : chI x) : vp_nar .char x = x := by
  have := pk_vc x
  rw [chI_fix h] at this
  exact this
theorem chI_nc {x : Int32} (h : chI x) : narrow .char (.int x) = .int x := by
  have := pk_nc x
  rw [chI_fix h] at this
  exact this
theorem chI_fc {x : Int32} (h : chI x) : fits .char (.int x) = true := by
  have := pk_fc x
  rw [chI_fix h] at this
  exact this
theorem chI_of (x : Int32) : chI ((x.toUInt32 % 65536).toInt32) := ⟨_, Nat.mod_lt _ (by decide), pk_char x⟩
theorem chI_n {n : Nat} (h : n < 65536) : chI (nI n) := ⟨n, h, rfl⟩
def Ab.setT (A : Ab) (t : List Int32) : Ab := mkA A.S A.sv A.hist t A.line A.why A.fault
def Ab.setL (A : Ab) (l : List Int32) : Ab := mkA A.S A.sv A.hist A.text l A.why A.fault
def Ab.setF (A : Ab) (f : Int32) : Ab := mkA A.S A.sv A.hist A.text A.line A.why f
theorem CI_text {V : Nat → Cfg} {W : Nat} {u u' : MU} {A : Ab} {B : Bf} {i : Int32} {t : List Int32} (hC : CI V W u A B i) (f : ∀ a, a ≠ 108 → a ≠ 109 → u' a = u a) (hT : TxI u' 108 t) (hl : t.length ≤ 60) (hc : ∀ x, x ∈ t → chI x) : CI V W u' (A.setT t) B i := by
  obtain ⟨a1, a2, a3, a4, a5, m1, m2, m3, m4, m5, m6, m7, m8, m9, m10⟩ := hC
  have hx := Vx.rf V W
  exact ⟨⟨a1.1, a1.2.1, a1.2.2.1, a1.2.2.2.1, hl, hc, a1.2.2.2.2.2.2⟩, by rw [f 0 (by omega) (by omega)]; exact a2, by rw [f 0 (by omega) (by omega)]; exact a3, BIs_of (fun a _ hb => f a (by omega) (by omega)) a4, VIs_of hx (by rw [f _ (by omega) (by omega)]) a5, by rw [f 0 (by omega) (by omega)]; exact m1, SvI_of hx (by rw [f 0 (by omega) (by omega)]) (fun a _ _ => f a (by omega) (by omega)) m2, HI_of hx (fun a _ _ => f a (by omega) (by omega)) m3, BfI_of hx (fun a _ _ => f a (by omega) (by omega)) m4, TC_of hx (fun a _ _ => f a (by omega) (by omega)) m5, TC_of hx (fun a _ _ => f a (by omega) (by omega)) m6, SC_of hx (fun a _ _ => f a (by omega) (by omega)) m7, hT, TxI_of (f _ (by omega) (by omega)) (f _ (by omega) (by omega)) m9, WyI_of (f _ (by omega) (by omega)) m10⟩
theorem CI_line {V : Nat → Cfg} {W : Nat} {u u' : MU} {A : Ab} {B : Bf} {i : Int32} {t : List Int32} (hC : CI V W u A B i) (f : ∀ a, a ≠ 110 → a ≠ 111 → u' a = u a) (hT : TxI u' 110 t) (hl : t.length ≤ 160) (hc : ∀ x, x ∈ t → chI x) : CI V W u' (A.setL t) B i := by
  obtain ⟨a1, a2, a3, a4, a5, m1, m2, m3, m4, m5, m6, m7, m8, m9, m10⟩ := hC
  have hx := Vx.rf V W
  exact ⟨⟨a1.1, a1.2.1, a1.2.2.1, a1.2.2.2.1, a1.2.2.2.2.1, a1.2.2.2.2.2.1, hl, hc, a1.2.2.2.2.2.2.2.2⟩, by rw [f 0 (by omega) (by omega)]; exact a2, by rw [f 0 (by omega) (by omega)]; exact a3, BIs_of (fun a _ hb => f a (by omega) (by omega)) a4, VIs_of hx (by rw [f _ (by omega) (by omega)]) a5, by rw [f 0 (by omega) (by omega)]; exact m1, SvI_of hx (by rw [f 0 (by omega) (by omega)]) (fun a _ _ => f a (by omega) (by omega)) m2, HI_of hx (fun a _ _ => f a (by omega) (by omega)) m3, BfI_of hx (fun a _ _ => f a (by omega) (by omega)) m4, TC_of hx (fun a _ _ => f a (by omega) (by omega)) m5, TC_of hx (fun a _ _ => f a (by omega) (by omega)) m6, SC_of hx (fun a _ _ => f a (by omega) (by omega)) m7, TxI_of (f _ (by omega) (by omega)) (f _ (by omega) (by omega)) m8, hT, WyI_of (f _ (by omega) (by omega)) m10⟩
/-- a sign is added -/
theorem s_sign {u : MU} {k : Nat} (hk : zln (k + 1) = 160) {t : List Int32} (hT : TxI u k t) (hl : t.length < 160) {x : Int32} (hx : chI x) {Q : MU → Prop} (hq : ∀ u', (∀ a, a ≠ k → a ≠ k + 1 → u' a = u a) → TxI u' k (t ++ [x]) → Q u') : w_X8_add k x u Q := by
  unfold w_X8_add
  rw [hT.1]
  refine ⟨fun z => absurd z (nI_pos (by omega)), fun _ => ⟨fun z => absurd z (nI_ge (b := 160) hl (by decide)), fun _ => ⟨vp_in_nI hl (by decide), fun a4 e4 a5 e5 => ?_⟩⟩⟩
  rw [nI_clamp (by omega), chI_nar hx] at e4
  have x0 : a4 k 0 = nI t.length := by rw [e4, u2_ne (by omega)]; exact hT.1
  rw [x0, nI_1] at e5
  refine hq a5 (fun a h1 h2 => by rw [e5, u2_ne h1, e4, u2_ne h2]) ⟨by rw [e5, u2_at, List.length_append]; rfl, fun i y hi => ?_⟩
  rw [e5, u2_ne (by omega), e4]
  rcases Nat.lt_or_ge i t.length with z | z
  · rw [List.getElem?_append_left z] at hi
    rw [u2_o (Or.inr (by omega))]
    exact hT.2 i y hi
  · have hil := (List.getElem?_eq_some_iff.mp hi).1
    rw [List.length_append, List.length_singleton] at hil
    have hi2 : i = t.length := by omega
    subst hi2
    rw [List.getElem?_append_right (Nat.le_refl _), Nat.sub_self, List.getElem?_cons_zero] at hi
    cases hi
    exact u2_at
def a_append (A : Ab) (x : Int32) : Ans := if A.text.length < 60 then (0, (nI (A.text.length + 1), A.setT (A.text ++ [x]))) else (1, (0, A))
theorem L_append {V : Nat → Cfg} {W : Nat} {u : MU} {A : Ab} {o : Nat → Int64} {x : Int32} (hx : chI x) {Q : Int32 → MU → (Nat → Int64) → Prop} (hC : CI V W u A none 0) (hq : LPost W (a_append A x) Q) : w_L_append x u o Q := by
  obtain ⟨m1, m2, m3, m4, m5, m6, m7, m8, m9, m10⟩ := hC.M
  have hl := hC.ok.2.2.2.2.1
  unfold a_append at hq
  unfold w_L_append w_X9_append
  rw [m8.1]
  refine ⟨fun z => ?_, fun z => ?_⟩
  · have h : A.text.length < 60 := (nI_ltI (b := 60) (by omega) (by decide)).mp z
    rw [if_pos h] at hq
    refine s_sign (k := 108) rfl m8 (by omega) hx (fun u3 f3 t3 => ?_)
    show Q 0 u3 (vp_updL o ((0 : Int32)).toNatClampNeg (u3 108 0).toInt64)
    rw [t3.1, List.length_append]
    refine LPost.ret hq (W' := W) (by omega) rfl (CI_text hC f3 t3 (by rw [List.length_append, List.length_singleton]; omega) (fun y hy => ?_))
    rcases List.mem_append.mp hy with z | z
    · exact hC.ok.2.2.2.2.2.1 y z
    · rw [List.mem_singleton.mp z]; exact hx
  · have h : ¬ A.text.length < 60 := fun z2 => z (nI_lt (b := 60) z2 (by decide))
    rw [if_neg h] at hq
    exact ⟨rfl, LPost.exc (j := 0) hq (W' := W) (by omega) rfl hC⟩
def a_reason (A : Ab) (x : Int32) : Ans := if x < 0 then (1, (0, A)) else if 2 < x then (1, (0, A)) else match A.why with
  | none => (2, (0, A))
  | some (w, (d, i)) => (0, (if x = 0 then w else if x = 1 then d else i, A))
theorem L_reason {V : Nat → Cfg} {W : Nat} {u : MU} {A : Ab} {o : Nat → Int64} {x : Int32} {Q : Int32 → MU → (Nat → Int64) → Prop} (hC : CI V W u A none 0) (hq : LPost W (a_reason A x) Q) : w_L_reason x u o Q := by
  obtain ⟨m1, m2, m3, m4, m5, m6, m7, m8, m9, m10⟩ := hC.M
  unfold a_reason at hq
  unfold w_L_reason w_X9_reason wb_X9_reason_9
  refine ⟨fun h => ?_, fun h => ⟨fun h2 => ?_, fun h2 => ?_⟩⟩
  · rw [if_pos h] at hq
    exact Or.inl ⟨rfl, LPost.exc (j := 0) hq (W' := W) (by omega) rfl hC⟩
  · rw [if_neg h, if_neg (fun z => (fa_of_lt z).2.1 h2)] at hq
    unfold WyI at m10
    cases hw : A.why with
    | none =>
      rw [hw] at m10 hq
      exact ⟨fun z => absurd m10 z, fun _ => Or.inr ⟨rfl, LPost.exc (j := 1) hq (W' := W) (by omega) rfl hC⟩⟩
    | some z =>
      obtain ⟨w, d, i⟩ := z
      rw [hw] at m10 hq
      have hq : LPost W (0, ((if x = 0 then w else if x = 1 then d else i), A)) Q := hq
      obtain ⟨p1, p2, p3, p4⟩ := m10
      refine ⟨fun _ => ⟨fun e0 => ⟨fun e1 => ?_, fun e1 => ?_⟩, fun e0 => ?_⟩, fun z => absurd (p1.symm.trans z) (by decide)⟩
      · rw [p4]; exact LPost.ret hq (W' := W) (by omega) (by rw [if_neg e0, if_neg e1]) hC
      · rw [p3]; exact LPost.ret hq (W' := W) (by omega) (by rw [if_neg e0, if_pos e1]) hC
      · rw [p2]; exact LPost.ret hq (W' := W) (by omega) (by rw [if_pos e0]) hC
  · rw [if_neg h, if_pos (fa_of_nle h2)] at hq
    exact Or.inl ⟨rfl, LPost.exc (j := 0) hq (W' := W) (by omega) rfl hC⟩
/-- a move as it is written -/
def lnOne (q : Nat × Nat) : List Int32 := [nI (48 + q.2 / 8), if tu q.1 = 1 then 103 else 102, nI (48 + q.2 % 8)]
def lnAdd (T : List Int32) (q : Nat × Nat) : List Int32 := (if T.length = 0 then T else T ++ [32]) ++ lnOne q
def lineT (g : Option Gm) : List Int32 := match g with
  | none => []
  | some (h, _) => h.foldl lnAdd []
def a_line (A : Ab) : Int32 × Ab := (nI (lineT A.S.game).length, A.setL (lineT A.S.game))
theorem lnAdd_len (T : List Int32) (q : Nat × Nat) : (lnAdd T q).length = if T.length = 0 then 3 else T.length + 4 := by
  unfold lnAdd lnOne
  split
  · rename_i h; rw [List.length_append, h]; rfl
  · rw [List.length_append, List.length_append]; rfl
theorem lnAdd_0 {T : List Int32} {q : Nat × Nat} (h : T.length = 0) : lnAdd T q = T ++ lnOne q := by unfold lnAdd; rw [if_pos h]
theorem lnAdd_n {T : List Int32} {q : Nat × Nat} (h : ¬ T.length = 0) : lnAdd T q = (T ++ [32]) ++ lnOne q := by unfold lnAdd; rw [if_neg h]
theorem ln_len (D : List (Nat × Nat)) : (D.foldl lnAdd []).length = if D.length = 0 then 0 else 4 * D.length - 1 := by
  have H : ∀ (D : List (Nat × Nat)) (T : List Int32), (D.foldl lnAdd T).length = if D.length = 0 then T.length else if T.length = 0 then 4 * D.length - 1 else T.length + 4 * D.length := by
    intro D
    induction D with
    | nil => intro T; rfl
    | cons q t ih =>
      intro T
      have hne : ¬ (if T.length = 0 then 3 else T.length + 4) = 0 := by split <;> omega
      rw [List.foldl_cons, ih, lnAdd_len, List.length_cons, if_neg hne, if_neg (show ¬ t.length + 1 = 0 by omega)]
      by_cases h : T.length = 0
      · rw [if_pos h, if_pos h]
        split <;> omega
      · rw [if_neg h, if_neg h]
        split <;> omega
  exact H D []
theorem lnAdd_ch {T : List Int32} {q : Nat × Nat} (hT : ∀ x, x ∈ T → chI x) (hq : q.2 < 64) : ∀ x, x ∈ lnAdd T q → chI x := by
  intro x hx
  unfold lnAdd lnOne at hx
  rcases List.mem_append.mp hx with z | z
  · split at z
    · exact hT x z
    · rcases List.mem_append.mp z with z | z
      · exact hT x z
      · rw [List.mem_singleton.mp z]; exact chI_n (n := 32) (by decide)
  · simp only [List.mem_cons, List.not_mem_nil, or_false] at z
    rcases z with z | z | z
    · rw [z]; exact chI_n (by omega)
    · rw [z]; split
      · exact chI_n (n := 103) (by decide)
      · exact chI_n (n := 102) (by decide)
    · rw [z]; exact chI_n (by omega)
theorem i_digit : ∀ k, k < 8 → (((48 : Int32) + nI k).toUInt32 % 65536).toInt32 = nI (48 + k) := by decide +kernel
theorem s_line {V : Nat → Cfg} {W : Nat} {u : MU} {A : Ab} (hC : CI V W u A none 0) {Q : Int32 → MU → Prop} (hq : ∀ u', CI V W u' (a_line A).2 none 0 → Q (a_line A).1 u') : w_X9_line u Q := by
  have hG := hC.B.2.2.2.2
  unfold w_X9_line wb_X9_line_31
  intro a1 e1
  have f1 : ∀ a, a ≠ 110 → a1 a = u a := fun a ha => by rw [e1]; exact u2_ne ha
  have t1 : TxI a1 110 [] := ⟨by rw [e1, u2_at]; rfl, fun i x hi => by simp at hi⟩
  -- the loop over the moves, when there is a game
  have loop : ∀ (h : List (Nat × Nat)) (p : Nat), A.S.game = some (h, p) → h.length ≤ 40 → (∀ q, q ∈ h → posB A.S.cfg q.1 = true ∧ q.2 < 64) → (∀ (i : Nat) q, h[i]? = some q → u 7 i = nI q.1 ∧ u 8 i = nI q.2) →
      ∀ (R D : List (Nat × Nat)) (u' : MU), h = D ++ R → (∀ a, a ≠ 110 → a ≠ 111 → u' a = u a) → TxI u' 110 (D.foldl lnAdd []) → (∀ x, x ∈ D.foldl lnAdd [] → chI x) → wl_X9_line_34 Q (R.length + 1) (nI h.length) (nI D.length) u' := by
    intro h p hg hl hok hrow R
    induction R with
    | nil =>
      intro D u' hD f' t' c'
      rw [List.append_nil] at hD
      subst hD
      have ha : a_line A = (nI (h.foldl lnAdd []).length, A.setL (h.foldl lnAdd [])) := by unfold a_line lineT; rw [hg]
      rw [List.length_nil, wl_X9_line_34, t'.1]
      refine ⟨fun _ => ?_, fun z => absurd (nI_le (Nat.le_refl _) (by omega)) z⟩
      rw [ha] at hq
      refine hq u' (CI_line hC f' t' ?_ c')
      rw [ln_len]; split <;> omega
    | cons q R ih =>
      intro D u' hD f' t' c'
      obtain ⟨g1, g2, g3, g4⟩ := getD hD
      obtain ⟨q1, q2⟩ := hok q g3
      have hq12 := (posB_spec.mp q1).1
      obtain ⟨r1, r2⟩ := hrow _ q g1
      have hlen := ln_len D
      have tl : tu q.1 = 0 ∨ tu q.1 = 1 := by have := tu_lt q.1; omega
      -- behind the blank
      have rest : ∀ (T : List Int32) (u2' : MU), T.length + 3 ≤ 160 → (∀ a, a ≠ 110 → a ≠ 111 → u2' a = u a) → TxI u2' 110 T → T ++ lnOne q = lnAdd (D.foldl lnAdd []) q → wb_X9_line_52 (fun x2' x3' u' => wl_X9_line_34 Q (R.length + 1) x2' x3' u') Q (nI h.length) (nI D.length) u2' := fun T u2' hT f2 t2 e2 => by
        have last : ∀ (s : Int32) (u5 : MU), s = (if tu q.1 = 1 then (103 : Int32) else 102) → (∀ a, a ≠ 110 → a ≠ 111 → u5 a = u a) → TxI u5 110 (T ++ [nI (48 + q.2 / 8)]) → wb_X9_line_116 (fun x2' x3' u' => wl_X9_line_34 Q (R.length + 1) x2' x3' u') Q (nI h.length) (nI D.length) (nI q.2) s u5 := fun s u5 hs f5 t5 => by
          unfold wb_X9_line_116
          have hsc : chI s := by
            rw [hs]; split
            · exact chI_n (n := 103) (by decide)
            · exact chI_n (n := 102) (by decide)
          refine s_sign (k := 110) rfl t5 (by rw [List.length_append, List.length_singleton]; omega) hsc (fun u6 f6 t6 => s_to q2 ?_)
          rw [i_digit _ (by omega)]
          refine s_sign (k := 110) rfl t6 (by rw [List.length_append, List.length_append, List.length_singleton, List.length_singleton]; omega) (chI_n (by omega)) (fun u7 f7 t7 x3 hx3 => ?_)
          rw [hx3, nI_1]
          have et : (T ++ [nI (48 + q.2 / 8)] ++ [s]) ++ [nI (48 + q.2 % 8)] = (D ++ [q]).foldl lnAdd [] := by
            rw [List.foldl_append, List.foldl_cons, List.foldl_nil, ← e2, hs]
            unfold lnOne
            simp
          rw [et] at t7
          have := ih (D ++ [q]) u7 g4 (fun a h1 h2 => by rw [f7 a h1 h2, f6 a h1 h2, f5 a h1 h2]) t7 (by rw [List.foldl_append, List.foldl_cons, List.foldl_nil]; exact lnAdd_ch c' q2)
          rw [List.length_append, List.length_singleton] at this
          exact this
        have mid : ∀ b : Bool, (tu q.1 = 1 ↔ b = true) → wb_X9_line_82 (fun x2' x3' u' => wl_X9_line_34 Q (R.length + 1) x2' x3' u') Q (nI h.length) (nI D.length) (nI q.2) (bI b) u2' := fun b hb => by
          unfold wb_X9_line_82
          refine s_from q2 ?_
          rw [i_digit _ (by omega)]
          refine s_sign (k := 110) rfl t2 (by omega) (chI_n (by omega)) (fun u5 f5 t5 => bI_br (fun e => last 102 u5 ?_ (fun a h1 h2 => by rw [f5 a h1 h2, f2 a h1 h2]) t5) (fun e => last 103 u5 ?_ (fun a h1 h2 => by rw [f5 a h1 h2, f2 a h1 h2]) t5))
          · rw [if_neg (fun z => by rw [hb.mp z] at e; cases e)]
          · rw [if_pos (hb.mpr e)]
        unfold wb_X9_line_52
        refine s_at (N := 40) rfl (by omega) (by decide) (s_at (N := 41) rfl (by omega) (by decide) ?_)
        rw [f2 7 (by decide) (by decide), f2 8 (by decide) (by decide), r1, r2]
        refine s_tu hq12 ?_
        rcases tl with z | z <;> rw [z]
        · exact ⟨fun _ => mid false ⟨fun z2 => by omega, fun z2 => (by cases z2)⟩, fun z2 => absurd z2 (by decide +kernel)⟩
        · exact ⟨fun z2 => absurd rfl z2, fun _ => mid true ⟨fun _ => rfl, fun _ => z⟩⟩
      rw [List.length_cons, wl_X9_line_34]
      refine ⟨fun z => absurd z (nI_ge (by omega) (by omega)), fun _ => ⟨fun z => ?_, fun z => ?_⟩⟩
      · have hd0 : D.length = 0 := by
          rcases Nat.eq_zero_or_pos D.length with z2 | z2
          · exact z2
          · exact absurd z (nI_nle z2 (by omega))
        rw [if_pos hd0] at hlen
        exact rest _ u' (by omega) f' t' (lnAdd_0 hlen).symm
      · have hd0 : D.length ≠ 0 := fun e => z (by rw [e]; decide)
        rw [if_neg hd0] at hlen
        refine s_sign (k := 110) rfl t' (by omega) (chI_n (n := 32) (by decide)) (fun u4 f4 t4 => rest _ u4 (by rw [List.length_append, List.length_singleton]; omega) (fun a h1 h2 => by rw [f4 a h1 h2, f' a h1 h2]) t4 (lnAdd_n (by omega)).symm)
  rw [f1 6 (by decide)]
  cases hg : A.S.game with
  | none =>
    rw [hg] at hG
    refine ⟨fun _ => ⟨1, ?_⟩, fun z => absurd hG z⟩
    have ha : a_line A = (nI 0, A.setL []) := by unfold a_line lineT; rw [hg]; rfl
    rw [wl_X9_line_34, t1.1]
    refine ⟨fun _ => ?_, fun z => absurd (by decide) z⟩
    rw [ha] at hq
    exact hq a1 (CI_line hC (fun a h1 _ => f1 a h1) t1 (by decide) (fun x hx => absurd hx List.not_mem_nil))
  | some z =>
    obtain ⟨h, p⟩ := z
    rw [hg] at hG
    obtain ⟨k1, k2, k3⟩ := hC.S.2.2.2.2 h p hg
    have g1 : u 6 0 = 1 := hG.1
    have g2 : u 6 1 = nI h.length := hG.2.1
    rw [g2]
    refine ⟨fun z => absurd (g1.symm.trans z) (by decide), fun _ => ⟨h.length + 1, ?_⟩⟩
    exact loop h p hg k1 k3 hG.2.2.2 h [] a1 rfl (fun a h1 _ => f1 a h1) t1 (fun x hx => absurd hx List.not_mem_nil)
def a_character (A : Ab) (x : Int32) : Ans := if x < 0 then (1, (0, A)) else match A.line[cl x]? with
  | none => (1, (0, A))
  | some y => (0, (y, A))
theorem L_character {V : Nat → Cfg} {W : Nat} {u : MU} {A : Ab} {o : Nat → Int64} {x : Int32} {Q : Int32 → MU → (Nat → Int64) → Prop} (hC : CI V W u A none 0) (hq : LPost W (a_character A x) Q) : w_L_character x u o Q := by
  obtain ⟨m1, m2, m3, m4, m5, m6, m7, m8, m9, m10⟩ := hC.M
  have hl := hC.ok.2.2.2.2.2.2.1
  unfold a_character at hq
  unfold w_L_character w_X9_character wb_X9_character_15 w_X8_sign
  rw [m9.1]
  refine ⟨fun h => ?_, fun h => ?_⟩
  · rw [if_pos h] at hq
    exact ⟨rfl, LPost.exc (j := 0) hq (W' := W) (by omega) rfl hC⟩
  · rw [if_neg h] at hq
    obtain ⟨m, hm31, rfl⟩ := nI_of h
    rw [show cl (nI m) = m from nI_clamp hm31] at hq
    refine ⟨fun z => ?_, fun z => ?_⟩
    · have hml : m < A.line.length := (nI_ltI hm31 (by omega)).mp z
      rw [List.getElem?_eq_getElem hml] at hq
      have hv := m9.2 m _ (List.getElem?_eq_getElem hml)
      have hch := hC.ok.2.2.2.2.2.2.2.1 _ (List.getElem_mem hml)
      refine ⟨fun z2 => absurd z2 h, fun _ => ⟨fun z2 => absurd z2 (nI_ge hml (by omega)), fun _ => ⟨fun _ => ⟨vp_in_nI (by omega) (by decide), ?_⟩, fun z2 => absurd (nI_lt (b := 160) (by omega) (by decide)) z2⟩⟩⟩
      rw [nI_clamp hm31, show u (110 + 1) m = _ from hv]
      exact ⟨chI_nc hch, chI_nc hch, LPost.ret hq (W' := W) (by omega) rfl hC⟩
    · have hml : ¬ m < A.line.length := fun z2 => z (nI_lt z2 (by omega))
      rw [List.getElem?_eq_none (by omega)] at hq
      exact ⟨rfl, LPost.exc (j := 0) hq (W' := W) (by omega) rfl hC⟩
