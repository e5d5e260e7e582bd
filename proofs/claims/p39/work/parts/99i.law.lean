/-! THE LAW'S SECOND HALF: changes, undo, restore -/
theorem nI_sub {a b : Nat} (h : b ≤ a) : nI a - nI b = nI (a - b) := by
  obtain ⟨c, hc⟩ : ∃ c, a = c + b := ⟨a - b, by omega⟩
  subst hc
  rw [← nI_add, Nat.add_sub_cancel, Int32.add_sub_cancel]
theorem push_app {P D : List St} {S : St} (h : (P ++ D).length ≤ 8) (hD : D.length < 8) : ∃ P', push (P ++ D) S = P' ++ (D ++ [S]) := by
  unfold push
  by_cases e : (P ++ D).length = 8
  · rw [if_pos e]
    cases P with
    | nil => rw [List.nil_append] at e; omega
    | cons p P2 => exact ⟨P2, by rw [List.cons_append, List.tail_cons, List.append_assoc]⟩
  · rw [if_neg e]
    exact ⟨P, by rw [List.append_assoc]⟩
set_option maxRecDepth 100000 in
theorem law_608 {xs : Nat → Int32} {L d : Nat} {T : St} {f : Nat → Int64} (hd : d ≤ 8) : ∀ (m k W : Nat) (S : St) (P D : List St) (u : MU), D.length = m → m + k = d + 1 → P.length + d ≤ 8 → (∀ j S', D[j]? = some S' → f j = asksV S') → W + 26300 * m + 53000 < 2 ^ 20 → IN S (P ++ D) (some T) (fun _ => True) W u → wl_R_lawb_608 xs L True (m + 1) (asksV T) (nI T.n) (nI d) (nI k) u f := by
  intro m
  induction m with
  | zero =>
    intro k W S P D u hm hk hP hf hW h
    rw [wl_R_lawb_608]
    refine ⟨fun _ => ?_, fun z => absurd (nI_lt (by omega) (by omega)) z⟩
    refine N_restore h (fun u1 h1 => ⟨fun z => absurd rfl z, fun _ => ?_⟩)
    refine N_undo0 h1 (fun u2 h2 => ⟨fun z => absurd rfl z, fun _ => ?_⟩)
    refine N_asks h2 (by omega) (fun u3 h3 => ⟨fun z => absurd (by rw [lg_cmp_eq]) z, fun _ => ?_⟩)
    refine N_restore h3 (fun u4 h4 => ⟨fun z => absurd rfl z, fun _ => ?_⟩)
    exact N_asks h4 (by omega) (fun u5 h5 => ⟨fun z => absurd (by rw [lg_cmp_eq]) z, fun _ => trivial⟩)
  | succ m ih =>
    intro k W S P D u hm hk hP hf hW h
    obtain ⟨D', Tl, rfl⟩ : ∃ D' Tl, D = D' ++ [Tl] := by
      have hne : D ≠ [] := fun e => by rw [e] at hm; cases hm
      exact ⟨D.dropLast, D.getLast hne, (List.dropLast_concat_getLast hne).symm⟩
    have hm' : D'.length = m := by rw [List.length_append, List.length_singleton] at hm; omega
    have hfm : f m = asksV Tl := hf m Tl (by rw [List.getElem?_append_right (by omega), hm', Nat.sub_self]; rfl)
    rw [← List.append_assoc] at h
    rw [wl_R_lawb_608]
    have esub : nI d - nI k = nI m := by rw [nI_sub (by omega), show d - k = m by omega]
    refine ⟨fun z => absurd ((nI_ltI (by omega) (by omega)).mp z) (by omega), fun _ => N_undo h (fun u1 h1 => ?_)⟩
    have el : (P ++ D').length = P.length + m := by rw [List.length_append, hm']
    rw [el, esub, show (8 : Int32) - nI k = nI (8 - k) from nI_sub (a := 8) (by omega)]
    refine ⟨fun z => absurd z (nI_nlt (by omega) (by omega)), fun _ => ⟨fun z => absurd z (nI_nlt (by omega) (by omega)), fun _ => ?_⟩⟩
    refine N_asks h1 (by omega) (fun u2 h2 => ⟨vp_in_nI (by omega) (by decide), fun _ x8 e8 => ?_, fun z => absurd ?_ z⟩)
    · rw [nI_1] at e8
      subst e8
      exact ih (k + 1) _ Tl P D' u2 hm' (by omega) hP (fun j S' hj => hf j S' (by rw [List.getElem?_append_left (List.getElem?_eq_some_iff.mp hj).1]; exact hj)) (by omega) h2
    · rw [lg_cmp_eq, nI_clamp (by omega), hfm]
set_option maxRecDepth 100000 in
theorem law_538 {xs : Nat → Int32} {L : Nat} (hL : L ≤ 260) {T : St} : ∀ (m i d W : Nat) (S : St) (P D : List St) (u : MU) (f : Nat → Int64), i + m = 8 → d ≤ i → D.length = d → (∀ j S', D[j]? = some S' → f j = asksV S') → W + 55500 * m + 300000 < 2 ^ 20 → IN S (P ++ D) (some T) (fun _ => True) W u → wl_R_lawb_538 xs L True (m + 1) (asksV T) (nI T.n) (nI d) (nI i) u f := by
  intro m
  induction m with
  | zero =>
    intro i d W S P D u f him hdi hD hf hW h
    have h8 := h.h8
    rw [List.length_append] at h8
    rw [wl_R_lawb_538]
    refine ⟨fun _ => ⟨d + 1, by omega, ?_⟩, fun z => absurd (nI_le (a := 8) (by omega) (by omega)) z⟩
    exact law_608 (by omega) d 1 W S P D u hD rfl (by omega) hf (by omega) h
  | succ m ih =>
    intro i d W S P D u f him hdi hD hf hW h
    have h8 := h.h8
    rw [wl_R_lawb_538]
    refine ⟨fun z => absurd ((nI_leI (a := 8) (by omega) (by omega)).mp z) (by omega), fun _ => ?_⟩
    refine N_asks h (by omega) (fun u1 h1 => ?_)
    rw [show (20 : Int32) + nI i = nI (20 + i) from nI_add 20 i]
    refine R_at hL (by omega) (fun v => ?_)
    refine changes_ok h1 (by omega) (fun u2 h2 => ⟨fun _ => ?_, fun z => absurd rfl z⟩) (fun S' u2 h2 => ⟨fun z => absurd z (by decide), fun _ x7 e7 => ?_⟩)
    · refine N_asks h2 (by omega) (fun u3 h3 => ⟨fun _ => ?_, fun z => absurd (by rw [lg_cmp_eq]) z⟩)
      unfold wb_R_lawb_599
      intro x8 e8
      rw [nI_1] at e8
      subst e8
      exact ih (i + 1) d _ S P D u3 f (by omega) (by omega) hD hf (by omega) h3
    · rw [nI_1] at e7
      subst e7
      refine ⟨vp_in_nI (by omega) (by decide), fun f' ef => ?_⟩
      unfold wb_R_lawb_599
      intro x8 e8
      rw [nI_1] at e8
      subst e8
      obtain ⟨P', eP⟩ := push_app (S := S) h8 (show D.length < 8 by omega)
      rw [eP] at h2
      refine ih (i + 1) (d + 1) _ S' P' (D ++ [S]) u2 f' (by omega) (by omega) (by rw [List.length_append, List.length_singleton, hD]) (fun j S9 hj => ?_) (by omega) h2
      rw [ef, nI_clamp (by omega)]
      unfold vp_updL
      by_cases hjd : j < d
      · rw [List.getElem?_append_left (by omega)] at hj
        rw [if_neg (by omega)]
        exact hf j S9 hj
      · rw [List.getElem?_append_right (by omega)] at hj
        have h0 : j - D.length = 0 := by
          have := (List.getElem?_eq_some_iff.mp hj).1
          rw [List.length_singleton] at this
          omega
        rw [h0] at hj
        have hj' : S = S9 := by simpa using hj
        rw [if_pos (by omega), hj']
theorem IN.app0 {S : St} {hi : List St} {sv : Option St} {y : Why → Prop} {W : Nat} {u : MU} (h : IN S hi sv y W u) : IN S (hi ++ []) sv y W u := by
  rw [List.append_nil]
  exact h
set_option maxRecDepth 100000 in
theorem lawa_ok {xs : Nat → Int32} {L : Nat} (hL : L ≤ 260) {hi : List St} {sv : Option St} {u : MU} (h : IN (Sd 0) hi sv (fun _ => True) 0 u) : wb_R_lawa_466 xs L True u := by
  unfold wb_R_lawa_466
  refine makes_ok hL h (by decide) (fun S hi' u1 hn hg ha h1 => ⟨fun _ => ?_, fun z => absurd z (by decide)⟩)
  have hp : ∃ j, pix 1 0 S.ps 0 = some j := by
    cases e : pix 1 0 S.ps 0 with
    | some j => exact ⟨j, rfl⟩
    | none => rw [(pix_none S.ps 0).mp e] at ha; cases ha
  refine N_asks h1 (by omega) (fun u2 h2 => ?_)
  refine N_asks h2 (by omega) (fun u3 h3 => ⟨fun z => absurd (by rw [lg_cmp_eq]) z, fun _ => ?_⟩)
  refine refused_ok hn hg hp h3 (by omega) (fun u4 h4 => ⟨fun _ => ?_, fun z => absurd z (by decide)⟩)
  refine N_save h4 (fun u5 h5 => ?_)
  refine N_account ⟨by decide, by decide⟩ h5 (by omega) (fun u6 h6 => ?_)
  rw [acc_0]
  refine ⟨fun z => absurd rfl z, fun _ => ?_⟩
  refine N_asks h6 (by omega) (fun u7 h7 => ⟨fun _ => ?_, fun z => absurd (by rw [lg_cmp_eq]) z⟩)
  unfold wb_R_lawb_532
  refine ⟨9, by decide, ?_⟩
  have h8 := h7.app0
  exact law_538 hL 8 0 0 _ S hi' [] u7 (fun _ => 0) rfl (by decide) rfl (fun j S' hj => by simp at hj) (by omega) h8
