/-! DIVISIONS of counts are numbers -/
def GD (f : FP.Core.Fmt) (d : FP.Core.Datum) : Prop := (∃ s, d = .inf s) ∨ ∃ s c q, d = .fin s c q ∧ c < 2 ^ f.p ∧ f.qmin ≤ q ∧ q ≤ f.qmax
theorem GD_bound {f : FP.Core.Fmt} {s : Bool} {c : Nat} {q : Int} (hc : c < 2 ^ f.p) (hq : f.qmin ≤ q) : GD f (FP.Core.bound f s c q) := by
  unfold FP.Core.bound
  split
  · rename_i h; exact Or.inr ⟨s, c, q, rfl, hc, hq, h⟩
  · exact Or.inl ⟨s, rfl⟩
theorem GD_ratio {f : FP.Core.Fmt} (h1 : f.tails < 2 ^ f.p) (h2 : f.qmin ≤ f.qmax) (s : Bool) (a b : Nat) (e : Int) : GD f (FP.Core.roundRatio f s a b e) := by
  unfold FP.Core.roundRatio
  split
  · exact Or.inr ⟨s, 0, f.qmin, rfl, Nat.two_pow_pos _, Int.le_refl _, h2⟩
  · have hq : f.qmin ≤ FP.Core.quantum f a b e := by unfold FP.Core.quantum; exact Int.le_max_left _ _
    unfold FP.Core.roundAt FP.Core.settle
    split
    · rename_i h; exact GD_bound h hq
    · exact GD_bound h1 (by omega)
theorem GD_enc64 {d : FP.Core.Datum} (h : GD FP.Core.b64 d) : FP.Core.encode FP.Core.b64 d % 9223372036854775808 ≤ 9218868437227405312 ∧ FP.Core.encode FP.Core.b64 d < 18446744073709551616 := by
  have hE : FP.Core.b64.exps = 2048 := by decide
  have hT : FP.Core.b64.tails = 4503599627370496 := by decide
  have hP : 2 ^ FP.Core.b64.p = 9007199254740992 := by decide
  have hn : FP.Core.b64.qmin = -1074 := by decide
  have hx : FP.Core.b64.qmax = 971 := by decide
  rcases h with ⟨s, rfl⟩ | ⟨s, c, q, rfl, h1, h2, h3⟩
  · unfold FP.Core.encode FP.Core.assemble
    rw [hE, hT]
    cases s <;> decide
  · rw [show FP.Core.encode FP.Core.b64 (.fin s c q) = if c < FP.Core.b64.tails then FP.Core.assemble FP.Core.b64 s 0 c else FP.Core.assemble FP.Core.b64 s ((q - FP.Core.b64.qmin).toNat + 1) (c - FP.Core.b64.tails) from rfl]
    unfold FP.Core.assemble
    rw [hP] at h1
    rw [hn] at h2 ⊢
    rw [hx] at h3
    rw [hE, hT]
    have hs : s.toNat ≤ 1 := by cases s <;> decide
    split
    · omega
    · have : (q - -1074).toNat + 1 ≤ 2046 := by omega
      omega
theorem GD_enc32 {d : FP.Core.Datum} (h : GD FP.Core.b32 d) : FP.Core.encode FP.Core.b32 d % 2147483648 ≤ 2139095040 ∧ FP.Core.encode FP.Core.b32 d < 4294967296 := by
  have hE : FP.Core.b32.exps = 256 := by decide
  have hT : FP.Core.b32.tails = 8388608 := by decide
  have hP : 2 ^ FP.Core.b32.p = 16777216 := by decide
  have hn : FP.Core.b32.qmin = -149 := by decide
  have hx : FP.Core.b32.qmax = 104 := by decide
  rcases h with ⟨s, rfl⟩ | ⟨s, c, q, rfl, h1, h2, h3⟩
  · unfold FP.Core.encode FP.Core.assemble
    rw [hE, hT]
    cases s <;> decide
  · rw [show FP.Core.encode FP.Core.b32 (.fin s c q) = if c < FP.Core.b32.tails then FP.Core.assemble FP.Core.b32 s 0 c else FP.Core.assemble FP.Core.b32 s ((q - FP.Core.b32.qmin).toNat + 1) (c - FP.Core.b32.tails) from rfl]
    unfold FP.Core.assemble
    rw [hP] at h1
    rw [hn] at h2 ⊢
    rw [hx] at h3
    rw [hE, hT]
    have hs : s.toNat ≤ 1 := by cases s <;> decide
    split
    · omega
    · have : (q - -149).toNat + 1 ≤ 254 := by omega
      omega
theorem n64_of {x : Nat} (h : x % 9223372036854775808 ≤ 9218868437227405312) : vf_n64 (UInt64.ofNat x) := by
  unfold vf_n64
  rw [UInt64.le_iff_toNat_le, UInt64.toNat_and, show (0x7fffffffffffffff : UInt64).toNat = 2 ^ 63 - 1 from rfl, Nat.and_two_pow_sub_one_eq_mod, UInt64.toNat_ofNat']
  show x % 18446744073709551616 % 9223372036854775808 ≤ 9218868437227405312
  omega
theorem n32_of {x : Nat} (h : x % 2147483648 ≤ 2139095040) : vf_n32 (UInt32.ofNat x) := by
  unfold vf_n32
  rw [UInt32.le_iff_toNat_le, UInt32.toNat_and, show (0x7fffffff : UInt32).toNat = 2 ^ 31 - 1 from rfl, Nat.and_two_pow_sub_one_eq_mod, UInt32.toNat_ofNat']
  show x % 4294967296 % 2147483648 ≤ 2139095040
  omega
/-- what is read back is no NaN -/
theorem dec64 {x : Nat} (h : x % 9223372036854775808 ≤ 9218868437227405312) : FP.Core.decode FP.Core.b64 x ≠ .nan := by
  have hE : FP.Core.b64.exps = 2048 := by decide
  have hT : FP.Core.b64.tails = 4503599627370496 := by decide
  unfold FP.Core.decode FP.Core.fieldE FP.Core.fieldT
  rw [hE, hT]
  split
  · rw [if_pos (by omega)]
    exact fun z => by cases z
  · split <;> exact fun z => by cases z
theorem dec32 {x : Nat} (h : x % 2147483648 ≤ 2139095040) : FP.Core.decode FP.Core.b32 x ≠ .nan := by
  have hE : FP.Core.b32.exps = 256 := by decide
  have hT : FP.Core.b32.tails = 8388608 := by decide
  unfold FP.Core.decode FP.Core.fieldE FP.Core.fieldT
  rw [hE, hT]
  split
  · rw [if_pos (by omega)]
    exact fun z => by cases z
  · split <;> exact fun z => by cases z
def isFin (d : FP.Core.Datum) : Bool := match d with
  | .fin _ c _ => decide (c ≠ 0)
  | _ => false
theorem fin64 : ∀ n, n < 337 → 0 < n → isFin (FP.Core.decode FP.Core.b64 (FP.i2d (nI n)).toNat) = true := by decide +kernel
theorem fin32 : ∀ n, n < 337 → 0 < n → isFin (FP.Core.decode FP.Core.b32 (FP.i2f (nI n)).toNat) = true := by decide +kernel
theorem quo_G {f : FP.Core.Fmt} (h1 : f.tails < 2 ^ f.p) (h2 : f.qmin ≤ f.qmax) {x y : FP.Core.Datum} (hx : x ≠ .nan) (hy : isFin y = true) : GD f (FP.Core.quotient f x y) := by
  cases y with
  | nan => cases hy
  | inf s => cases hy
  | fin t d r =>
    have hd : d ≠ 0 := of_decide_eq_true hy
    cases x with
    | nan => exact absurd rfl hx
    | inf s => exact Or.inl ⟨_, rfl⟩
    | fin s c q =>
      show GD f (if d = 0 then _ else FP.Core.roundRatio f (s != t) c d (q - r))
      rw [if_neg hd]
      exact GD_ratio h1 h2 _ _ _ _
theorem round_G {f : FP.Core.Fmt} (h1 : f.tails < 2 ^ f.p) (h2 : f.qmin ≤ f.qmax) {x : FP.Core.Datum} (hx : x ≠ .nan) : GD f (FP.Core.round f x) := by
  cases x with
  | nan => exact absurd rfl hx
  | inf s => exact Or.inl ⟨s, rfl⟩
  | fin s c q => exact GD_ratio h1 h2 _ _ _ _
theorem t64 : FP.Core.b64.tails < 2 ^ FP.Core.b64.p := by decide
theorem q64 : FP.Core.b64.qmin ≤ FP.Core.b64.qmax := by decide
theorem t32 : FP.Core.b32.tails < 2 ^ FP.Core.b32.p := by decide
theorem q32 : FP.Core.b32.qmin ≤ FP.Core.b32.qmax := by decide
theorem i2d_n (x : Int32) : FP.Core.decode FP.Core.b64 (FP.i2d x).toNat ≠ .nan := by
  have h := GD_enc64 (round_G t64 q64 (x := FP.Core.ofInt x.toInt) (fun z => by cases z))
  refine dec64 ?_
  show (UInt64.ofNat (FP.Core.encode FP.Core.b64 (FP.Core.round FP.Core.b64 (FP.Core.ofInt x.toInt)))).toNat % _ ≤ _
  rw [UInt64.toNat_ofNat']
  show _ % 18446744073709551616 % 9223372036854775808 ≤ 9218868437227405312
  omega
theorem i2f_n (x : Int32) : FP.Core.decode FP.Core.b32 (FP.i2f x).toNat ≠ .nan := by
  have h := GD_enc32 (round_G t32 q32 (x := FP.Core.ofInt x.toInt) (fun z => by cases z))
  refine dec32 ?_
  show (UInt32.ofNat (FP.Core.encode FP.Core.b32 (FP.Core.round FP.Core.b32 (FP.Core.ofInt x.toInt)))).toNat % _ ≤ _
  rw [UInt32.toNat_ofNat']
  show _ % 4294967296 % 2147483648 ≤ 2139095040
  omega
theorem ddiv_n {x : Int32} {n : Nat} (h0 : 0 < n) (hn : n < 337) : vf_n64 (FP.ddiv (FP.i2d x) (FP.i2d (nI n))) :=
  n64_of (GD_enc64 (quo_G t64 q64 (i2d_n x) (fin64 n hn h0))).1
theorem fdiv_n {x : Int32} {n : Nat} (h0 : 0 < n) (hn : n < 337) : vf_n32 (FP.fdiv (FP.i2f x) (FP.i2f (nI n))) ∧ vf_n64 (FP.f2d (FP.fdiv (FP.i2f x) (FP.i2f (nI n)))) := by
  have h := GD_enc32 (quo_G t32 q32 (i2f_n x) (fin32 n hn h0))
  have hr : FP.Core.decode FP.Core.b32 (FP.fdiv (FP.i2f x) (FP.i2f (nI n))).toNat ≠ .nan := by
    refine dec32 ?_
    show (UInt32.ofNat (FP.Core.encode FP.Core.b32 (FP.Core.quotient FP.Core.b32 (FP.Core.decode FP.Core.b32 (FP.i2f x).toNat) (FP.Core.decode FP.Core.b32 (FP.i2f (nI n)).toNat)))).toNat % _ ≤ _
    rw [UInt32.toNat_ofNat']
    show _ % 4294967296 % 2147483648 ≤ 2139095040
    omega
  refine ⟨n32_of h.1, ?_⟩
  unfold FP.f2d
  rw [if_neg (show ¬ FP.Core.fIsNaN (FP.fdiv (FP.i2f x) (FP.i2f (nI n))) = true from fun z => hr (of_decide_eq_true z))]
  exact n64_of (GD_enc64 (round_G t64 q64 hr)).1
