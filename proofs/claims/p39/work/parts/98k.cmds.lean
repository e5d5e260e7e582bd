/-! the class: commands -/
noncomputable def opCmd (S : St) (c : Cmd) : Rs := if c.1 = 97 then opPlay S (nI c.2.1) else if c.1 = 98 then opBegin S (nI c.2.1) else if c.1 = 100 then opDig S else if c.1 = 102 then opTrap S (nI c.2.1) false else if c.1 = 103 then opFlock S (nI c.2.1) else if c.1 = 109 then opMove S (nI c.2.1) (nI c.2.2) else if c.1 = 112 then opTread S (nI c.2.1) (nI c.2.2) else if c.1 = 116 then opTrap S (nI c.2.1) true else if c.1 = 120 then opGrow S (nI c.2.1) (nI c.2.2) else opBack S
/-- commands one after the other: the first refusal with its place, or the state -/
noncomputable def runC : St → List Cmd → Nat → (Int32 × (Int32 × Nat)) ⊕ St
  | S, [], _ => .inr S
  | S, c :: t, i => match opCmd S c with
    | .inl (w, d) => .inl (w, (d, i))
    | .inr (_, S') => runC S' t (i + 1)
noncomputable def a_commands (A : Ab) : Ans := match (prs A.text 31 0).2 with
  | some p => (1, (0, (A.setT []).setF (nI p)))
  | none => match runC A.S (prs A.text 31 0).1 0 with
    | .inl (w, (d, i)) => (2, (0, ((A.setT []).setF (-1)).setWhy w d (nI i)))
    | .inr S' => (0, (nI (prs A.text 31 0).1.length, (((A.setT []).setF (-1)).setS S').keep A.S))
theorem cmdAt_k {T : List Int32} (hc : chT T) {i j : Nat} {c : Cmd} (h : cmdAt T i = .inr (j, c)) : c.1 < 65536 := by
  have g := (sg_lt hc i).1
  unfold cmdAt at h
  split at h
  · cases h
  · rename_i d hd
    have hl : i < T.length := sg_in (fun e => by rw [e] at hd; cases hd)
    unfold cmd1 at h
    split at h
    · rw [(cmd2_le (by omega) h).2.2]; exact g
    · obtain ⟨g1, g2⟩ := dgN_le (T := T) d (i + 1) none
      split at h
      · cases h
      · rw [(cmd2_le (g2 hl) h).2.2]; exact g
theorem prs_ok {T : List Int32} (hc : chT T) : ∀ n i, i ≤ 61 → 2 * (prs T n i).1.length + i ≤ 61 ∧ ∀ c, c ∈ (prs T n i).1 → c.1 < 65536
  | 0, i, hi => by
    rw [prs]
    exact ⟨by show 2 * 0 + i ≤ 61; omega, fun c h => absurd h List.not_mem_nil⟩
  | n + 1, i, hi => by
    have h60 := hc.1
    rw [prs]
    cases hcm : cmdAt T i with
    | inl p => exact ⟨by show 2 * 0 + i ≤ 61; omega, fun c h => absurd h List.not_mem_nil⟩
    | inr z =>
      obtain ⟨j, c⟩ := z
      obtain ⟨l1, l2⟩ := cmdAt_le hcm
      have hk := cmdAt_k hc hcm
      have one : 2 * [c].length + i ≤ 61 ∧ ∀ c', c' ∈ [c] → c'.1 < 65536 := ⟨by show 2 * 1 + i ≤ 61; omega, fun c' h => by rw [List.mem_singleton.mp h]; exact hk⟩
      by_cases h1 : T.length ≤ j
      · simp only [if_pos h1]; exact one
      · simp only [if_neg h1]
        by_cases h2 : sgN T j = 59
        · simp only [if_pos h2]
          obtain ⟨p1, p2⟩ := prs_ok hc n (j + 1) (by omega)
          refine ⟨by rw [List.length_cons]; omega, fun c' h => ?_⟩
          rcases List.mem_cons.mp h with z | z
          · rw [z]; exact hk
          · exact p2 c' z
        · simp only [if_neg h2]; exact one
theorem s_carried {V : Nat → Cfg} {W : Nat} {u : MU} {A : Ab} {B : Bf} {i : Int32} (hC : CI V W u A B i) (hW : W < 2 ^ 20) {cs : List Cmd} (hR : RdC u cs) (hl : cs.length ≤ 30) {m : Nat} {c : Cmd} (hm : cs[m]? = some c) (hk : c.1 < 65536) {Q : Int32 → MU → Prop} (hq : CRes V W A B i Q (opCmd A.S c)) : w_X9_carriedOut (nI m) u Q := by
  have hml := (List.getElem?_eq_some_iff.mp hm).1
  obtain ⟨r1, r2, r3⟩ := hR.2 m c hm
  unfold opCmd at hq
  unfold w_X9_carriedOut
  refine s_at (N := 30) rfl (by omega) (by decide) (s_at (N := 30) rfl (by omega) (by decide) (s_at (N := 30) rfl (by omega) (by decide) ?_))
  rw [r1, r2, r3]
  have K : ∀ m : Nat, m < 65536 → (nI c.1 = nI m ↔ c.1 = m) := fun m hm => kindI hk hm
  refine ⟨fun e => ?_, fun e1 => ⟨fun e => ?_, fun e2 => ⟨fun e => ?_, fun e3 => ⟨fun e => ?_, fun e4 => ⟨fun e => ?_, fun e5 => ⟨fun e => ?_, fun e6 => ⟨fun e => ?_, fun e7 => ⟨fun e => ?_, fun e8 => ⟨fun e => ?_, fun e9 => ?_⟩⟩⟩⟩⟩⟩⟩⟩⟩
  · rw [if_pos ((K 97 (by decide)).mp e)] at hq; exact s_play hC hW hq
  all_goals rw [if_neg (show ¬ c.1 = 97 from fun z => e1 ((K 97 (by decide)).mpr z))] at hq
  · rw [if_pos ((K 98 (by decide)).mp e)] at hq; exact s_begin hC hq
  all_goals rw [if_neg (show ¬ c.1 = 98 from fun z => e2 ((K 98 (by decide)).mpr z))] at hq
  · rw [if_pos ((K 100 (by decide)).mp e)] at hq; exact s_dig hC hq
  all_goals rw [if_neg (show ¬ c.1 = 100 from fun z => e3 ((K 100 (by decide)).mpr z))] at hq
  · rw [if_pos ((K 102 (by decide)).mp e)] at hq; exact s_trap (b := false) hC hq
  all_goals rw [if_neg (show ¬ c.1 = 102 from fun z => e4 ((K 102 (by decide)).mpr z))] at hq
  · rw [if_pos ((K 103 (by decide)).mp e)] at hq; exact s_flock hC hq
  all_goals rw [if_neg (show ¬ c.1 = 103 from fun z => e5 ((K 103 (by decide)).mpr z))] at hq
  · rw [if_pos ((K 109 (by decide)).mp e)] at hq; exact s_move hC hq
  all_goals rw [if_neg (show ¬ c.1 = 109 from fun z => e6 ((K 109 (by decide)).mpr z))] at hq
  · rw [if_pos ((K 112 (by decide)).mp e)] at hq; exact s_tread hC hq
  all_goals rw [if_neg (show ¬ c.1 = 112 from fun z => e7 ((K 112 (by decide)).mpr z))] at hq
  · rw [if_pos ((K 116 (by decide)).mp e)] at hq; exact s_trap (b := true) hC hq
  all_goals rw [if_neg (show ¬ c.1 = 116 from fun z => e8 ((K 116 (by decide)).mpr z))] at hq
  · rw [if_pos ((K 120 (by decide)).mp e)] at hq; exact s_grow hC hq
  rw [if_neg (show ¬ c.1 = 120 from fun z => e9 ((K 120 (by decide)).mpr z))] at hq
  exact s_back hC hq
theorem CI_cmd {V : Nat → Cfg} {W : Nat} {u : MU} {A : Ab} {B : Bf} {i x : Int32} (hC : CI V W u A B i) : CI V W (u2 u 0 14 x) A B x := by
  obtain ⟨a1, a2, a3, a4, a5, a6⟩ := hC
  have f : ∀ a, a ≠ 0 → u2 u 0 14 x a = u a := fun a ha => u2_ne ha
  exact ⟨a1, by rw [u2_o (Or.inr (by decide))]; exact a2, u2_at, BIs_of (fun a ha _ => f a (by omega)) a4, VIs_of (Vx.rf V W) (by rw [f _ (by decide)]) a5, CMem_of (Vx.rf V W) (fun j hj _ => u2_o (Or.inr hj)) (fun a ha => f a (by omega)) a6⟩
theorem opCmd_lt {S T : St} (hS : StOk S) {c : Cmd} {a : Nat} (h : opCmd S c = .inr (a, T)) : a < 2 ^ 31 := by
  unfold opCmd at h
  repeat' (split at h)
  · exact play_lt h
  · exact begin_lt h
  · exact dig_lt hS h
  · exact trap_lt h
  · exact flock_lt hS h
  · exact move_lt h
  · exact tread_lt hS h
  · exact trap_lt h
  · exact grow_lt hS h
  · exact back_lt hS h
/-- what the commands must lead to -/
def CmdQ (W0 : Nat) (A : Ab) (n : Nat) (Q : Int32 → MU → Prop) (X : String → MU → Prop) : (Int32 × (Int32 × Nat)) ⊕ St → Prop
  | .inl (w, (d, i)) => ∀ V' W' u', W' ≤ W0 + 40 → CI V' W' u' (A.setWhy w d (nI i)) none 0 → X "java/lang/UnsupportedOperationException" u'
  | .inr S => ∀ V' W' u', W' ≤ W0 + 40 → CI V' W' u' ((A.setS S).keep A.S) none 0 → Q (nI n) u'
theorem s_cmds_loop {W0 : Nat} {A : Ab} (hA : StOk A.S) {cs : List Cmd} (hl : cs.length ≤ 30) (hk : ∀ c, c ∈ cs → c.1 < 65536) (hW0 : W0 + 40 < 2 ^ 20) {Q : Int32 → MU → Prop} {X : String → MU → Prop} (hq : CmdQ W0 A cs.length Q X (runC A.S cs 0)) :
    ∀ (R D : List Cmd) (V : Nat → Cfg) (W : Nat) (u : MU) (S : St) (i : Int32), cs = D ++ R → W ≤ W0 + D.length → CI V W u (A.setS S) (some (A.S, some cs)) i → runC S R D.length = runC A.S cs 0 → wl_X9_commands_56 Q X (R.length + 1) (nI cs.length) (nI D.length) u := by
  intro R
  induction R with
  | nil =>
    intro D V W u S i hD hW hC hr
    rw [List.append_nil] at hD
    subst hD
    rw [runC] at hr
    rw [← hr] at hq
    have hR := hC.M.2.2.2.1.2.2 cs rfl
    rw [List.length_nil, wl_X9_commands_56, hR.1]
    refine ⟨fun _ => ?_, fun z => absurd (nI_le (Nat.le_refl _) (by omega)) z⟩
    unfold wb_X9_commands_94 w_X9_settled
    intro a1 e1
    refine ⟨fun _ => ?_, fun z => absurd z (opAns (by omega))⟩
    rw [e1]
    exact s_keep (CI_cmd hC) hA (fun u5 c5 => hq V W u5 (by omega) c5)
  | cons c R ih =>
    intro D V W u S i hD hW hC hr
    obtain ⟨g1, g2, g3, g4⟩ := getD hD
    have hR := hC.M.2.2.2.1.2.2 cs rfl
    rw [runC] at hr
    rw [List.length_cons, wl_X9_commands_56, hR.1]
    refine ⟨fun z => absurd z (nI_ge (by omega) (by omega)), fun _ => ⟨fun z => absurd z (opAns (by omega)), fun _ a3 e3 => ?_⟩⟩
    have hC3 := CI_cmd (x := nI D.length) hC
    rw [← e3] at hC3
    have hR3 := hC3.M.2.2.2.1.2.2 cs rfl
    have hS : StOk S := hC.S
    refine s_carried hC3 (by omega) hR3 hl g1 (hk c g3) ?_
    show CRes V W (A.setS S) (some (A.S, some cs)) (nI D.length) _ (opCmd S c)
    cases ho : opCmd S c with
    | inl z =>
      obtain ⟨w, d⟩ := z
      rw [ho] at hr
      have hr : (Sum.inl (w, (d, D.length)) : (Int32 × (Int32 × Nat)) ⊕ St) = runC A.S cs 0 := hr
      rw [← hr] at hq
      intro u5 c5
      refine ⟨fun z => absurd rfl z, fun _ x2 hx2 => ?_⟩
      rw [hx2, nI_1]
      have fin : wb_X9_commands_94 Q X (-1) u5 := by
        unfold wb_X9_commands_94 w_X9_settled
        intro a1 e1
        refine ⟨fun z => absurd rfl z, fun _ => ?_⟩
        have c6 := CI_cmd (x := 0) c5
        rw [← e1] at c6
        obtain ⟨b1, b2, -⟩ := c6.M.2.2.2.1
        exact s_bring c6 (k := 9) rfl (by decide) hA b1 b2 (fun u7 c7 _ => hq V W u7 (by omega) (CI_drop c7))
      show wl_X9_commands_56 Q X (R.length + 1) (-1) (nI (D.length + 1)) u5
      rw [wl_X9_commands_56]
      exact ⟨fun _ => fin, fun _ => ⟨fun _ => fin, fun z => absurd rfl z⟩⟩
    | inr z =>
      obtain ⟨a, S'⟩ := z
      rw [ho] at hr
      intro V' W' u5 hW' c5
      refine ⟨fun _ x2 hx2 => ?_, fun z => absurd z (opAns (opCmd_lt hS ho))⟩
      rw [hx2, nI_1]
      have := ih (D ++ [c]) V' W' u5 S' (nI D.length) g4 (by rw [List.length_append, List.length_singleton]; omega) c5 (by rw [List.length_append, List.length_singleton]; exact hr)
      rw [List.length_append, List.length_singleton] at this
      exact this
theorem CI_fault {V : Nat → Cfg} {W : Nat} {u : MU} {A : Ab} {B : Bf} {i x : Int32} (hC : CI V W u A B i) : CI V W (u2 u 0 13 x) (A.setF x) B i := by
  obtain ⟨a1, a2, a3, a4, a5, m1, m2, m3, m4, m5, m6, m7, m8, m9, m10⟩ := hC
  have f : ∀ a, a ≠ 0 → u2 u 0 13 x a = u a := fun a ha => u2_ne ha
  have hx := Vx.rf V W
  exact ⟨a1, by rw [u2_o (Or.inr (by decide))]; exact a2, by rw [u2_o (Or.inr (by decide))]; exact a3, BIs_of (fun a ha _ => f a (by omega)) a4, VIs_of hx (by rw [f _ (by decide)]) a5, u2_at, SvI_of hx (u2_o (Or.inr (by decide))) (fun a _ _ => f a (by omega)) m2, HI_of hx (fun a _ _ => f a (by omega)) m3, BfI_of hx (fun a _ _ => f a (by omega)) m4, TC_of hx (fun a _ _ => f a (by omega)) m5, TC_of hx (fun a _ _ => f a (by omega)) m6, SC_of hx (fun a _ _ => f a (by omega)) m7, TxI_of (f _ (by omega)) (f _ (by omega)) m8, TxI_of (f _ (by omega)) (f _ (by omega)) m9, WyI_of (f _ (by omega)) m10⟩
theorem L_commands {V : Nat → Cfg} {W : Nat} {u : MU} {A : Ab} {o : Nat → Int64} {Q : Int32 → MU → (Nat → Int64) → Prop} (hC : CI V W u A none 0) (hW : W + 40 < 2 ^ 20) (hq : LPost W (a_commands A) Q) : w_L_commands u o Q := by
  obtain ⟨m1, m2, m3, m4, m5, m6, m7, m8, m9, m10⟩ := hC.M
  have hch : chT A.text := ⟨hC.ok.2.2.2.2.1, hC.ok.2.2.2.2.2.1⟩
  obtain ⟨p1, p2⟩ := prs_ok hch 31 0 (by decide)
  unfold a_commands at hq
  unfold w_L_commands w_X9_commands
  refine s_read hch m8 (fun u2' f2 r2 a3 e3 a4 e4 => ?_)
  have c2 : CI V W u2' A none 0 := CI_aside hC (fun a _ h => f2 a h)
  have base : ∀ x : Int32, a3 = u2 u2' 0 13 x → CI V W a4 ((A.setT []).setF x) none 0 := fun x ex => by
    have c3 := CI_fault (x := x) c2
    rw [← ex] at c3
    have t4 : TxI a4 108 [] := ⟨by rw [e4, u2_at]; rfl, fun i y hi => by simp at hi⟩
    show CI V W a4 ((A.setF x).setT []) none 0
    exact CI_text c3 (fun a h1 _ => by rw [e4]; exact u2_ne h1) t4 (Nat.zero_le _) (fun y hy => absurd hy List.not_mem_nil)
  have e413 : a4 0 13 = a3 0 13 := by rw [e4, u2_ne (by decide)]
  rw [e413]
  cases hp : (prs A.text 31 0).2 with
  | some p =>
    rw [hp] at hq e3
    have b := base (nI p) e3
    have x3 : a3 0 13 = nI p := by rw [e3, u2_at]
    have hp31 : p < 2 ^ 31 := by
      have H : ∀ n i, i ≤ 61 → ∀ p, (prs A.text n i).2 = some p → p ≤ 61 := by
        intro n
        induction n with
        | zero => intro i hi p h; rw [prs] at h; cases h; exact hi
        | succ n ih =>
          intro i hi p h
          have h60 := hch.1
          rw [prs] at h
          cases hcm : cmdAt A.text i with
          | inl q =>
            rw [hcm] at h
            cases h
            unfold cmdAt at hcm
            split at hcm
            · cases hcm; exact hi
            · rename_i d hd
              have hl : i < A.text.length := sg_in (fun e => by rw [e] at hd; cases hd)
              have d2 : ∀ k one j q, j ≤ 60 → cmd2 A.text k one j = .inl q → q ≤ 61 := fun k one j q hj h2 => by
                unfold cmd2 at h2
                split at h2
                · cases h2
                · split at h2
                  · rename_i h3 h4
                    have hl2 := sg_in (T := A.text) (i := j) (by rw [h4]; exact mOf_pos k)
                    have := (dgN_le (T := A.text) 1 (j + 1) none).2 hl2
                    split at h2
                    · cases h2; omega
                    · cases h2
                  · cases h2; omega
              unfold cmd1 at hcm
              split at hcm
              · exact d2 _ _ _ _ (by omega) hcm
              · have := (dgN_le (T := A.text) d (i + 1) none).2 hl
                split at hcm
                · cases hcm; omega
                · exact d2 _ _ _ _ (by omega) hcm
          | inr z =>
            obtain ⟨j, c⟩ := z
            rw [hcm] at h
            obtain ⟨l1, l2⟩ := cmdAt_le hcm
            by_cases h1 : A.text.length ≤ j
            · simp only [if_pos h1] at h; cases h
            · simp only [if_neg h1] at h
              by_cases h2 : sgN A.text j = 59
              · simp only [if_pos h2] at h; exact ih (j + 1) (by omega) p h
              · simp only [if_neg h2] at h; cases h; omega
      have := H 31 0 (by decide) p hp
      omega
    rw [x3]
    exact ⟨fun z => absurd z (opAns hp31), fun _ => Or.inl ⟨rfl, LPost.exc (j := 0) hq (W' := W) (by omega) rfl b⟩⟩
  | none =>
    have r2' := r2 hp
    rw [hp] at hq e3
    have b := base (-1) e3
    have x3 : a3 0 13 = -1 := by rw [e3, u2_at]
    have r4 : RdC a4 (prs A.text 31 0).1 := by
      unfold RdC
      rw [e4, u2_ne (show (112 : Nat) ≠ 108 by decide), u2_ne (show (113 : Nat) ≠ 108 by decide), u2_ne (show (114 : Nat) ≠ 108 by decide), u2_ne (show (115 : Nat) ≠ 108 by decide), e3, u2_ne (show (112 : Nat) ≠ 0 by decide), u2_ne (show (113 : Nat) ≠ 0 by decide), u2_ne (show (114 : Nat) ≠ 0 by decide), u2_ne (show (115 : Nat) ≠ 0 by decide)]
      exact r2'
    rw [x3]
    refine ⟨fun _ => s_setAside b (r := some (prs A.text 31 0).1) (fun cs e => by cases e; exact r4) (fun u7 c7 f7 x1 hx1 => ⟨(prs A.text 31 0).1.length + 1, ?_⟩), fun z => absurd rfl z⟩
    have l7 : u7 112 0 = nI (prs A.text 31 0).1.length := by rw [f7 112 (by omega)]; exact r4.1
    rw [hx1, l7]
    have hl30 : (prs A.text 31 0).1.length ≤ 30 := by omega
    generalize (prs A.text 31 0).1 = cs at *
    have key : CmdQ W ((A.setT []).setF (-1)) cs.length (fun r u1 => Q 0 u1 (vp_updL o ((0 : Int32)).toNatClampNeg r.toInt64)) (fun E u1 => (E = "java/lang/IllegalArgumentException" ∧ Q (1 : Int32) u1 o) ∨ (E = "java/lang/UnsupportedOperationException" ∧ Q (2 : Int32) u1 o)) (runC A.S cs 0) := by
      cases hr : runC A.S cs 0 with
      | inl z =>
        obtain ⟨w, d, i⟩ := z
        rw [hr] at hq
        exact fun V' W' u' hW' c' => Or.inr ⟨rfl, LPost.exc (j := 1) hq (W' := W') hW' rfl c'⟩
      | inr S' =>
        rw [hr] at hq
        exact fun V' W' u' hW' c' => LPost.ret hq (W' := W') hW' rfl c'
    exact s_cmds_loop (W0 := W) (A := (A.setT []).setF (-1)) hC.S hl30 p2 hW key cs [] V W u7 A.S 0 rfl (by show W ≤ W + 0; omega) c7 rfl
