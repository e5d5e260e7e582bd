/-! THE CLASS'S TABLE: what is told before a position -/
/-- nothing changed but what is told, the numbers and what is open -/
def TF2 (k : Nat) (u u' : MU) : Prop := ∀ a, a ≠ k + 2 → a ≠ k + 3 → a ≠ k + 4 → u' a = u a
theorem TF2.rf (k : Nat) (u : MU) : TF2 k u u := fun _ _ _ _ => rfl
theorem TF2.tr {k : Nat} {u u' u'' : MU} (h1 : TF2 k u u') (h2 : TF2 k u' u'') : TF2 k u u'' := fun a x y z => (h2 a x y z).trans (h1 a x y z)
theorem TF2.put {k j i : Nat} {u u' : MU} {x : Int32} (h1 : TF2 k u u') (hj : j = k + 2 ∨ j = k + 3 ∨ j = k + 4) : TF2 k u (u2 u' j i x) := h1.tr (fun a y z w => u2_ne (by omega))
theorem TF2_FIs {k k1 : Nat} {u u' : MU} {c : Cfg} (h : TF2 k u u') (hk : k1 + 3 < k) (hF : FIs u k1 c) : FIs u' k1 c := by
  unfold FIs
  rw [h k1 (by omega) (by omega) (by omega), h (k1 + 3) (by omega) (by omega) (by omega)]
  exact hF
theorem RowL_of {u u' : MU} {k : Nat} {l : List Nat} (h : u' k = u k) (hl : RowL u k l) : RowL u' k l := fun i q hq => by rw [h]; exact hl i q hq
def TM (u : MU) (k : Nat) (c : Cfg) (f op : Nat → Nat) (T : List Nat) : Prop := TIs u k c f ∧ (∀ q, posB c q = true → f q = 0 → u (k + 4) q = nI (op q)) ∧ RowL u (k + 2) T
theorem s_tell_loop {c : Cfg} (hc : CfgOk c) {k i p fp : Nat} (hk : zkd k = 9) (hpp : posB c p = true) (hf0 : 0 < fp) (hf1 : fp < 2 ^ 20) {u0 : MU} {Q : Int32 → MU → Prop}
    (hq : ∀ (u' : MU) (f' op' : Nat → Nat) (T' : List Nat), TF2 k u0 u' → TM u' k c f' op' T' → T'[i]? = some p → f' p = fp → QOk c f' op' T' i p (wbs c p) fp → Q (nI T'.length) u') :
    ∀ (t d : List Nat) (x : Nat) (f op : Nat → Nat) (T : List Nat) (u : MU), wbs c p = d ++ t → x < 2 ^ 64 → bl x 64 0 = t → TF2 k u0 u → TM u k c f op T → T[i]? = some p → f p = fp → QOk c f op T i p d fp →
      wl_X7_tellBefore_26 k Q (t.length + 1) (nI p) (nI (fp - 1)) (nI T.length) (lN x) (nI (wbs c p).length) (nI d.length) u := by
  have hp2 := (posB_spec.mp hpp).1
  have hwl := wbs_le (c := c) (p := p)
  intro t
  induction t with
  | nil =>
    intro d x f op T u hd hx hl hu hT hTp hfp hQ
    rw [List.append_nil] at hd
    rw [List.length_nil, wl_X7_tellBefore_26]
    refine ⟨fun _ => hq u f op T hu hT hTp hfp (by rw [hd]; exact hQ), fun z => absurd ?_ z⟩
    rw [← hd]; exact nI_le (Nat.le_refl _) (by omega)
  | cons w t ih =>
    intro d x f op T u hd hx hl hu hT hTp hfp hQ
    obtain ⟨b1, b2, b3, b4, b5⟩ := bl_step hx hl
    have hQ' : QOk c f op T i p d (f p) := by rw [hfp]; exact hQ
    have hw : w ∈ wbs c p := by rw [hd]; exact List.mem_append_right _ List.mem_cons_self
    have hwd : w ∉ d := by
      have := wbs_nodup (c := c) (p := p)
      rw [hd, List.nodup_append] at this
      exact fun z => this.2.2 w z w List.mem_cons_self rfl
    obtain ⟨w1, w2, w3⟩ := way_move hc hpp hw
    have hq1 := (posB_spec.mp w1).1
    have hlen : (wbs c p).length = d.length + (t.length + 1) := by rw [hd, List.length_append, List.length_cons]
    have hT3 := hT
    obtain ⟨m1, m2, m3⟩ := hT
    have hlT : T.length ≤ 336 := by rw [hQ.2.2.2.2.2.2.2.2]; exact Nat.le_trans List.countP_le_length (lp_len hc)
    -- on with the next way
    have next : ∀ (f1 op1 : Nat → Nat) (T1 : List Nat) (u1 : MU), TF2 k u0 u1 → TM u1 k c f1 op1 T1 → T1[i]? = some p → f1 p = fp → QOk c f1 op1 T1 i p (d ++ [w]) fp →
        wb_X7_tellBefore_114 (fun x1' x5' x6' x7' x9' x10' u' => wl_X7_tellBefore_26 k Q (t.length + 1) x1' x5' x6' x7' x9' x10' u') k Q (nI p) (nI (fp - 1)) (nI T1.length) (lN (rest1 x)) (nI (wbs c p).length) (nI d.length) u1 := fun f1 op1 T1 u1 g1 g2 g3 g4 g5 x10 hx10 => by
      rw [hx10, nI_1]
      have := ih (d ++ [w]) (rest1 x) f1 op1 T1 u1 (by rw [hd, List.append_assoc]; rfl) (rest1_lt hx) b5 g1 g2 g3 g4 g5
      rw [List.length_append, List.length_singleton] at this
      exact this
    rw [List.length_cons, wl_X7_tellBefore_26]
    refine ⟨fun z => absurd z (nI_ge (by omega) (by omega)), fun _ => s_firstMove hx b3 b4 (s_withoutFirst b2 (s_from b1 (s_to b1 (s_shifted hp2 (by omega) (by omega) (s_at (zl9_3 hk) hq1 (by decide) ?_)))))⟩
    rw [m1 _ w1]
    generalize hy : sh p (w / 8) (w % 8) = y at *
    refine ⟨fun z => ?_, fun z => ?_⟩
    · have h0 : f y ≠ 0 := fun e => z (by rw [e]; exact nv_0)
      exact next f op T u hu hT3 hTp hfp (Q_skip hc hQ (by rw [hy]; exact h0))
    · have hfy : f y = 0 := by
        rcases Nat.eq_zero_or_pos (f y) with e | e
        · exact e
        · exfalso
          obtain ⟨j, hj⟩ := List.getElem?_of_mem ((hQ.2.1 y).mpr ⟨w1, by omega⟩)
          have h1 := hQ.2.2.2.2.2.2.1 j y hj
          have h2 := (List.getElem?_eq_some_iff.mp hj).1
          have := (nv_inj (by omega) (by decide)).mp (z.trans nv_0.symm)
          omega
      have hil := (List.getElem?_eq_some_iff.mp hTp).1
      have hpy : p ≠ y := fun e => by rw [e, hfy] at hfp; omega
      -- y is told
      have tell : ∀ (u1 : MU) (op1 : Nat → Nat), TF2 k u0 u1 → TIs u1 k c f → (∀ q, posB c q = true → f q = 0 → q ≠ y → u1 (k + 4) q = nI (op1 q)) → RowL u1 (k + 2) T → Cnd c f fp y → (∀ q, q ≠ y → op1 q = op q) →
          w_X9_put (k + 3) (nI y) (nI (fp - 1) + 1) u1 (fun u_19 => w_X9_put (k + 2) (nI T.length) (nI y) u_19 (fun u_21 => ∀ x6_22, x6_22 = nI T.length + (1 : Int32) → wb_X7_tellBefore_114 (fun x1' x5' x6' x7' x9' x10' u' => wl_X7_tellBefore_26 k Q (t.length + 1) x1' x5' x6' x7' x9' x10' u') k Q (nI p) (nI (fp - 1)) x6_22 (lN (rest1 x)) (nI (wbs c p).length) (nI d.length) u_21)) := fun u1 op1 g1 g2 g3 g4 g5 g6 => by
        have hQ2 : QOk c (updN f y (fp + 1)) op1 (T ++ [y]) i p (d ++ [w]) fp := by
          have := Q_tell hc (op' := op1) hQ' hTp hw (by rw [hy]; exact hfy) (by rw [hy, hfp]; exact g5) (by rw [hy]; exact g6)
          rw [hy, hfp] at this
          exact this
        have hl2 : (T ++ [y]).length ≤ 336 := by rw [hQ2.2.2.2.2.2.2.2.2]; exact Nat.le_trans List.countP_le_length (lp_len hc)
        rw [List.length_append, List.length_singleton] at hl2
        refine s_put (zl9_3 hk) hq1 (by decide) (s_put (zl9_2 hk) (by omega) (by decide) (fun x6 hx6 => ?_))
        rw [hx6, nI_1, nI_1, show fp - 1 + 1 = fp by omega]
        have := next (updN f y (fp + 1)) op1 (T ++ [y]) (u2 (u2 u1 (k + 3) y (nI fp)) (k + 2) T.length (nI y)) ((g1.put (Or.inr (Or.inl rfl))).put (Or.inl rfl)) ⟨fun q hq => ?_, fun q hq h0 => ?_, RowL_push (RowL_of (u2_ne (by omega)) g4)⟩ (by rw [List.getElem?_append_left hil]; exact hTp) (by rw [updN_ne hpy]; exact hfp) hQ2
        · rw [List.length_append, List.length_singleton] at this
          exact this
        · rw [u2_o (Or.inl (by omega))]
          by_cases e : q = y
          · rw [e, u2_at, updN_at, nv_s]
          · rw [u2_o (Or.inr e), updN_ne e]; exact g2 q hq
        · have e : q ≠ y := fun z => by rw [z, updN_at] at h0; omega
          rw [updN_ne e] at h0
          rw [u2_o (Or.inl (by omega)), u2_o (Or.inl (by omega))]
          exact g3 q hq h0 e
      unfold w_X7_isDecided
      have em : nI (fp - 1) - nI (fp - 1) / 2 * 2 = nI ((fp - 1) % 2) := pk_rem (d := 2) (by omega) (by decide) (by decide)
      rw [em]
      rcases Nat.mod_two_eq_zero_or_one fp with e | e
      · rw [show (fp - 1) % 2 = 1 by omega]
        refine ⟨fun _ => s_at (zl9_4 hk) hq1 (by decide) (fun x3 hx3 => ?_), fun z => absurd z (by decide +kernel)⟩
        rw [m2 y w1 hfy] at hx3
        have hD := Q_dec hc hQ hTp hw hwd (by rw [hy]; exact hfy) (by rw [hfp]; exact wonV_spec.mpr ⟨by omega, e⟩)
        rw [hy] at hD
        obtain ⟨d1, d2⟩ := hD
        have hob : op y ≤ 64 := by
          rw [(hQ.2.2.2.2.2.1 y w1 hfy).2.1]
          exact Nat.le_trans List.countP_le_length mvs_le
        rw [nI_pr (by omega)] at hx3
        rw [hx3]
        refine s_put (zl9_4 hk) hq1 (by decide) ⟨fun z => ⟨fun _ => ?_, fun z2 => absurd rfl z2⟩, fun z => ⟨fun z2 => absurd z2 (by decide +kernel), fun _ => ?_⟩⟩
        · have h1 : op y ≠ 1 := fun z3 => z (by rw [z3]; rfl)
          refine next f (updN op y (op y - 1)) T _ (hu.put (Or.inr (Or.inr rfl))) ⟨fun q hq => ?_, fun q hq h0 => ?_, RowL_of (u2_ne (by omega)) m3⟩ hTp hfp (d2 h1)
          · rw [u2_o (Or.inl (by omega))]; exact m1 q hq
          · by_cases e2 : q = y
            · rw [e2, u2_at, updN_at]
            · rw [u2_o (Or.inr e2), updN_ne e2]; exact m2 q hq h0
        · have h1 : op y = 1 := by
            have := (nI_eq (b := 0) (by omega) (by decide)).mp z
            omega
          refine tell _ op (hu.put (Or.inr (Or.inr rfl))) (fun q hq => ?_) (fun q hq h0 hne => ?_) (RowL_of (u2_ne (by omega)) m3) ?_ (fun _ _ => rfl)
          · rw [u2_o (Or.inl (by omega))]; exact m1 q hq
          · rw [u2_o (Or.inr hne)]; exact m2 q hq h0
          · have := Q_val hc hQ' hTp hw (by rw [hy]; exact hfy) (Or.inr ⟨by rw [hfp]; exact e, fun k' hk' => ?_⟩)
            · rw [hfp, hy] at this; exact this
            · rw [hy] at hk' ⊢
              have h3 : (mvs c y).countP (fun k => !Eb T i p (d ++ [w]) y k) = 0 := by omega
              rw [List.countP_eq_zero] at h3
              have := h3 k' hk'
              simpa using this
      · rw [show (fp - 1) % 2 = 0 by omega]
        refine ⟨fun z => absurd rfl z, fun _ => ⟨fun z => absurd z (by decide +kernel), fun _ => ?_⟩⟩
        refine tell u op hu m1 (fun q hq h0 _ => m2 q hq h0) m3 ?_ (fun _ _ => rfl)
        have := Q_val hc hQ' hTp hw (by rw [hy]; exact hfy) (Or.inl (by rw [hfp]; exact e))
        rw [hfp, hy] at this
        exact this
