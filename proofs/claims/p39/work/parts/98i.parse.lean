/-! TEXTS of commands, as mathematics -/
def sgN (T : List Int32) (i : Nat) : Nat := cl (T.getD i 0)
def isDg (n : Nat) : Bool := decide (48 ≤ n) && decide (n ≤ 57)
/-- at most so many digits from i on: the number, and where it ends -/
def dgN (T : List Int32) : Nat → Nat → Option Nat → Option Nat × Nat
  | 0, i, v => (v, i)
  | k + 1, i, v => if isDg (sgN T i) = true then dgN T k (i + 1) (some (10 * v.getD 0 + sgN T i - 48)) else (v, i)
def dOf (n : Nat) : Option Nat := if n = 97 then some 2 else if n = 98 then some 4 else if n = 100 then some 0 else if n = 102 then some 1 else if n = 103 then some 1 else if n = 109 then some 1 else if n = 112 then some 1 else if n = 116 then some 1 else if n = 117 then some 0 else if n = 120 then some 1 else none
def mOf (n : Nat) : Nat := if n = 109 then 62 else if n = 112 then 45 else if n = 120 then 45 else 32
def cmd2 (T : List Int32) (k one i : Nat) : Nat ⊕ (Nat × Cmd) := if mOf k = 32 then .inr (i, (k, (one, 0))) else if sgN T i = mOf k then (match (dgN T 1 (i + 1) none).1 with
  | none => .inl (dgN T 1 (i + 1) none).2
  | some v => .inr ((dgN T 1 (i + 1) none).2, (k, (one, v)))) else .inl i
def cmd1 (T : List Int32) (k i d : Nat) : Nat ⊕ (Nat × Cmd) := if d = 0 then cmd2 T k 0 (i + 1) else (match (dgN T d (i + 1) none).1 with
  | none => .inl (dgN T d (i + 1) none).2
  | some v => cmd2 T k v (dgN T d (i + 1) none).2)
/-- one command from i on: where it cannot go on, or where it ends and what it is -/
def cmdAt (T : List Int32) (i : Nat) : Nat ⊕ (Nat × Cmd) := match dOf (sgN T i) with
  | none => .inl i
  | some d => cmd1 T (sgN T i) i d
def prs (T : List Int32) : Nat → Nat → List Cmd × Option Nat
  | 0, i => ([], some i)
  | n + 1, i => match cmdAt T i with
    | .inl p => ([], some p)
    | .inr (j, c) => if T.length ≤ j then ([c], none) else if sgN T j = 59 then (c :: (prs T n (j + 1)).1, (prs T n (j + 1)).2) else ([c], some j)
def chT (T : List Int32) : Prop := T.length ≤ 60 ∧ ∀ x, x ∈ T → chI x
theorem sg_lt {T : List Int32} (h : chT T) (i : Nat) : sgN T i < 65536 ∧ T.getD i 0 = nI (sgN T i) := by
  unfold sgN
  rcases Nat.lt_or_ge i T.length with z | z
  · rw [List.getD_eq_getElem?_getD, List.getElem?_eq_getElem z]
    obtain ⟨n, hn, e⟩ := h.2 _ (List.getElem_mem z)
    show cl T[i] < 65536 ∧ T[i] = nI (cl T[i])
    rw [e, show cl (nI n) = n from nI_clamp (by omega)]
    exact ⟨hn, rfl⟩
  · rw [List.getD_eq_getElem?_getD, List.getElem?_eq_none z]
    exact ⟨by decide, by decide +kernel⟩
theorem sg_in {T : List Int32} {i : Nat} (h : sgN T i ≠ 0) : i < T.length := by
  rcases Nat.lt_or_ge i T.length with z | z
  · exact z
  · exfalso
    refine h ?_
    unfold sgN
    rw [List.getD_eq_getElem?_getD, List.getElem?_eq_none z]
    rfl
theorem isDg_spec {n : Nat} : isDg n = true ↔ 48 ≤ n ∧ n ≤ 57 := by unfold isDg; rw [Bool.and_eq_true, decide_eq_true_eq, decide_eq_true_eq]
theorem dgN_le {T : List Int32} : ∀ (k i : Nat) (v : Option Nat), i ≤ (dgN T k i v).2 ∧ (i ≤ T.length → (dgN T k i v).2 ≤ T.length)
  | 0, i, v => ⟨Nat.le_refl _, fun h => h⟩
  | k + 1, i, v => by
    rw [dgN]
    split
    · rename_i h
      have hi := sg_in (T := T) (i := i) (by have := isDg_spec.mp h; omega)
      obtain ⟨h1, h2⟩ := dgN_le k (i + 1) (some (10 * v.getD 0 + sgN T i - 48))
      exact ⟨by omega, fun _ => h2 hi⟩
    · exact ⟨Nat.le_refl _, fun h => h⟩
theorem mOf_pos (k : Nat) : mOf k ≠ 0 := by unfold mOf; split <;> (try split) <;> (try split) <;> decide
theorem cmd2_le {T : List Int32} {k one i j : Nat} {c : Cmd} (hi : i ≤ T.length) (h : cmd2 T k one i = .inr (j, c)) : i ≤ j ∧ j ≤ T.length ∧ c.1 = k := by
  unfold cmd2 at h
  split at h
  · cases h; exact ⟨Nat.le_refl _, hi, rfl⟩
  · split at h
    · rename_i h1 h2
      have hl := sg_in (T := T) (i := i) (by rw [h2]; exact mOf_pos k)
      obtain ⟨g1, g2⟩ := dgN_le (T := T) 1 (i + 1) none
      split at h
      · cases h
      · cases h; exact ⟨by omega, g2 hl, rfl⟩
    · cases h
theorem cmdAt_le {T : List Int32} {i j : Nat} {c : Cmd} (h : cmdAt T i = .inr (j, c)) : i < j ∧ j ≤ T.length := by
  unfold cmdAt at h
  split at h
  · cases h
  · rename_i d hd
    have hl : i < T.length := sg_in (fun e => by rw [e] at hd; cases hd)
    unfold cmd1 at h
    split at h
    · have := cmd2_le (by omega) h; omega
    · obtain ⟨g1, g2⟩ := dgN_le (T := T) d (i + 1) none
      split at h
      · cases h
      · have := cmd2_le (g2 hl) h; omega
theorem dgN_lt {T : List Int32} : ∀ (k i : Nat) (v : Option Nat) (B : Nat), (∀ x, v = some x → x < B) → 0 < B → ∀ x, (dgN T k i v).1 = some x → x < 10 ^ k * B
  | 0, i, v, B, h, hB, x, hx => by rw [Nat.pow_zero, Nat.one_mul]; exact h x hx
  | k + 1, i, v, B, h, hB, x, hx => by
    rw [dgN] at hx
    split at hx
    · rename_i hd
      have hd2 := isDg_spec.mp hd
      have := dgN_lt k (i + 1) (some (10 * v.getD 0 + sgN T i - 48)) (10 * B) (fun y hy => by
        cases hy
        cases v with
        | none => show 10 * 0 + sgN T i - 48 < 10 * B; omega
        | some z => have := h z rfl; show 10 * z + sgN T i - 48 < 10 * B; omega) (by omega) x hx
      rw [Nat.pow_succ, Nat.mul_assoc]; exact this
    · have := h x hx
      have h1 : 1 ≤ 10 ^ (k + 1) := Nat.pow_pos (by decide)
      calc x < B := this
        _ = 1 * B := (Nat.one_mul B).symm
        _ ≤ 10 ^ (k + 1) * B := Nat.mul_le_mul_right B h1
/-! the class's reader -/
theorem s_sg {u : MU} {T : List Int32} (hT : TxI u 108 T) (hc : chT T) {i : Nat} (hi : i < 2 ^ 31) {Q : Int32 → Prop} (h : Q (nI (sgN T i))) : w_X8_sign 108 u (nI i) Q := by
  obtain ⟨g1, g2⟩ := sg_lt hc i
  have hl := hc.1
  unfold w_X8_sign wb_X8_sign_21
  rw [hT.1]
  refine ⟨fun z => absurd z (nI_pos hi), fun _ => ⟨fun z => ?_, fun z => ?_⟩⟩
  · have : T.length ≤ i := (nI_leI (by omega) hi).mp z
    have e : sgN T i = 0 := by
      unfold sgN
      rw [List.getD_eq_getElem?_getD, List.getElem?_eq_none this]
      rfl
    rw [e] at h; exact h
  · have : i < T.length := by
      rcases Nat.lt_or_ge i T.length with z2 | z2
      · exact z2
      · exact absurd (nI_le z2 hi) z
    have hv := hT.2 i _ (List.getElem?_eq_getElem this)
    have e : T[i] = nI (sgN T i) := by
      rw [← g2, List.getD_eq_getElem?_getD, List.getElem?_eq_getElem this]; rfl
    refine ⟨fun _ => ⟨vp_in_nI (by omega) (by decide), ?_⟩, fun z2 => absurd (nI_lt (b := 160) (by omega) (by decide)) z2⟩
    rw [nI_clamp hi, show u (108 + 1) i = _ from hv, e]
    exact ⟨chI_nc (chI_n g1), h⟩
/-- only the reader's place has changed -/
def PF (u u' : MU) : Prop := (∀ a, a ≠ 112 → u' a = u a) ∧ ∀ j, j ≠ 4 → u' 112 j = u 112 j
theorem PF.rf (u : MU) : PF u u := ⟨fun _ _ => rfl, fun _ _ => rfl⟩
theorem PF.put {u u' : MU} {x : Int32} (h : PF u u') : PF u (u2 u' 112 4 x) := ⟨fun a ha => by rw [u2_ne ha]; exact h.1 a ha, fun j hj => by rw [u2_o (Or.inr hj)]; exact h.2 j hj⟩
theorem PF.T {u u' : MU} {T : List Int32} (h : PF u u') (hT : TxI u 108 T) : TxI u' 108 T := TxI_of (h.1 _ (by decide)) (h.1 _ (by decide)) hT
theorem s_numberIn {T : List Int32} (hc : chT T) {u0 : MU} (hT : TxI u0 108 T) {most : Nat} (hm : most ≤ 4) {i : Nat} (hi : i ≤ 70) {u : MU} (hu : PF u0 u) (hp : u 112 4 = nI i) {Q : Int32 → MU → Prop} (hq : ∀ u', PF u0 u' → u' 112 4 = nI (dgN T most i none).2 → Q (optI (dgN T most i none).1) u') : w_X3_numberIn 108 (nI most) u Q := by
  have loop : ∀ (n c i : Nat) (v : Option Nat) (u : MU), c + n = most → i ≤ 70 + c → PF u0 u → u 112 4 = nI i → (∀ x, v = some x → x < 10 ^ c) → (∀ u', PF u0 u' → u' 112 4 = nI (dgN T n i v).2 → Q (optI (dgN T n i v).1) u') → wl_X3_numberIn_5 108 Q (n + 1) (nI most) (optI v) (nI c) u := by
    intro n
    induction n with
    | zero =>
      intro c i v u hcn hi hu hp hv hq
      rw [wl_X3_numberIn_5]
      exact ⟨fun _ => hq u hu hp, fun z => absurd (nI_le (by omega) (by omega)) z⟩
    | succ n ih =>
      intro c i v u hcn hi hu hp hv hq
      rw [wl_X3_numberIn_5, hp]
      obtain ⟨g1, g2⟩ := sg_lt hc i
      have p10 : 10 ^ c ≤ 10 ^ 4 := Nat.pow_le_pow_right (by decide) (by omega)
      refine ⟨fun z => absurd z (nI_ge (by omega) (by omega)), fun _ => s_sg (hu.T hT) hc (by omega) ⟨fun z => ?_, fun z => ⟨fun z2 x3 hx3 a7 e7 x4 hx4 => ?_, fun z2 => ?_⟩⟩⟩
      · have h48 : sgN T i < 48 := (nI_ltI (b := 48) (by omega) (by decide)).mp z
        have e : dgN T (n + 1) i v = (v, i) := by rw [dgN, if_neg (fun z3 => by have := isDg_spec.mp z3; omega)]
        rw [e] at hq
        exact hq u hu hp
      · have h48 : ¬ sgN T i < 48 := fun z3 => z (nI_lt (b := 48) z3 (by decide))
        have h57 : sgN T i ≤ 57 := (nI_leI (b := 57) (by omega) (by decide)).mp z2
        have e : dgN T (n + 1) i v = dgN T n (i + 1) (some (10 * v.getD 0 + sgN T i - 48)) := by rw [dgN, if_pos (isDg_spec.mpr ⟨by omega, h57⟩)]
        rw [e] at hq
        rw [nI_1] at e7
        have ev : x3 = optI (some (10 * v.getD 0 + sgN T i - 48)) := by
          rw [hx3]
          cases v with
          | none =>
            show (10 * (if (-1 : Int32) < 0 then (0 : Int32) else -1) + nI (sgN T i)) - 48 = nI (10 * 0 + sgN T i - 48)
            rw [if_pos m1_lt, show (10 : Int32) * 0 = nI 0 from rfl, nI_add, show (48 : Int32) = nI 48 from rfl, pk_sub (by omega)]
          | some y =>
            have := hv y rfl
            show (10 * (if nI y < 0 then (0 : Int32) else nI y) + nI (sgN T i)) - 48 = nI (10 * y + sgN T i - 48)
            rw [if_neg (nI_pos (by omega)), show (10 : Int32) = nI 10 from rfl, pk_mul, nI_add, show (48 : Int32) = nI 48 from rfl, pk_sub (by omega)]
        rw [hx4, nI_1, ev]
        refine ih (c + 1) (i + 1) _ a7 (by omega) (by omega) (by rw [e7]; exact hu.put) (by rw [e7, u2_at]) (fun x hx => ?_) hq
        cases hx
        rw [Nat.pow_succ]
        cases v with
        | none => show 10 * 0 + sgN T i - 48 < _; have h1 : 1 ≤ 10 ^ c := Nat.pow_pos (by decide); omega
        | some y => have := hv y rfl; show 10 * y + sgN T i - 48 < _; omega
      · have h57 : ¬ sgN T i ≤ 57 := fun z3 => z2 (nI_le (b := 57) z3 (by decide))
        have e : dgN T (n + 1) i v = (v, i) := by rw [dgN, if_neg (fun z3 => by have := isDg_spec.mp z3; omega)]
        rw [e] at hq
        exact hq u hu hp
  unfold w_X3_numberIn
  exact ⟨most + 1, loop most 0 i none u (by omega) (by omega) hu hp (fun x h => by cases h) hq⟩
