section ZF
variable {p : Program} {l : Launch} {e : Env} {R : Room} {s : State} {m : MethodId} {args : Array Value} {below : List Frame} {meth : Method} {c : Code} {g : GE} {own : String} {cc : ByteArray} {nL cells slots mc ms : Nat} {Q : State → Prop} {pc : Nat} {lv : List (Nat × Value)} {st st0 rest : List Value} {M : Mem} {u v U : MU} {W : MU × ((Nat → Int64) × (Nat → UInt64))} {Z : (Nat → Int64) × (Nat → UInt64)} {k0 k1 : Nat}
theorem zm_nmI {x : Int32} (k : ∀ y : Int32, y = x → WM p l e R s m args below meth c g nL cells slots Q pc lv (.int y :: st) M) : WM p l e R s m args below meth c g nL cells slots Q pc lv (.int x :: st) M := k x rfl
theorem zm_nmL {x : Int64} (k : ∀ y : Int64, y = x → WM p l e R s m args below meth c g nL cells slots Q pc lv (.long y :: st) M) : WM p l e R s m args below meth c g nL cells slots Q pc lv (.long x :: st) M := k x rfl
theorem zm_nmF {x : UInt32} (k : ∀ y : UInt32, y = x → WM p l e R s m args below meth c g nL cells slots Q pc lv (.float y :: st) M) : WM p l e R s m args below meth c g nL cells slots Q pc lv (.float x :: st) M := k x rfl
theorem zm_nmD {x : UInt64} (k : ∀ y : UInt64, y = x → WM p l e R s m args below meth c g nL cells slots Q pc lv (.double y :: st) M) : WM p l e R s m args below meth c g nL cells slots Q pc lv (.double x :: st) M := k x rfl
theorem zq_ld_x (C : zCx p l s m args meth c g own cc nL) {n : Nat} (hk : zkd k0 = 5) (hn : zln k0 = n) {i : Int32} (hin : vp_in i n) (d : decode cc pc = .ok (.iaload, 1)) (k : WM p l e R s m args below meth c g nL cells slots Q (pc + 1) lv (.int (u k0 i.toNatClampNeg) :: st) (u, W)) : WM p l e R s m args below meth c g nL cells slots Q pc lv (.int i :: .ref (g.2.2.1 k0) :: st) (u, W) := zm_ld_x C hk hn hin d k
theorem zq_st_x (C : zCx p l s m args meth c g own cc nL) {n : Nat} (hk : zkd k0 = 5) (hn : zln k0 = n) {i x : Int32} (hin : vp_in i n) (d : decode cc pc = .ok (.iastore, 1)) (k : ∀ z : MU, z = u2 u k0 i.toNatClampNeg x → WM p l e R s m args below meth c g nL cells slots Q (pc + 1) lv st (z, W)) : WM p l e R s m args below meth c g nL cells slots Q pc lv (.int x :: .int i :: .ref (g.2.2.1 k0) :: st) (u, W) := zm_st_x C hk hn hin rfl d (k _ rfl)
theorem zq_ld_xc (C : zCx p l s m args meth c g own cc nL) {n : Nat} (hk : zkd k0 = 6) (hn : zln k0 = n) {i : Int32} (hin : vp_in i n) (d : decode cc pc = .ok (.caload, 1)) (k : WM p l e R s m args below meth c g nL cells slots Q (pc + 1) lv (.int (u k0 i.toNatClampNeg) :: st) (u, W)) : WM p l e R s m args below meth c g nL cells slots Q pc lv (.int i :: .ref (g.2.2.1 k0) :: st) (u, W) := zm_ld_xc C hk hn hin d k
theorem zq_st_xc (C : zCx p l s m args meth c g own cc nL) {n : Nat} (hk : zkd k0 = 6) (hn : zln k0 = n) {i x : Int32} (hin : vp_in i n) (d : decode cc pc = .ok (.castore, 1)) (k : ∀ z : MU, z = u2 u k0 i.toNatClampNeg (vp_nar .char x) → WM p l e R s m args below meth c g nL cells slots Q (pc + 1) lv st (z, W)) : WM p l e R s m args below meth c g nL cells slots Q pc lv (.int x :: .int i :: .ref (g.2.2.1 k0) :: st) (u, W) := zm_st_xc C hk hn hin rfl d (k _ rfl)
theorem zq_copy (C : zCx p l s m args meth c g own cc nL) {n0 n1 index : Nat} (hk0 : zkd k0 = 5) (hk1 : zkd k1 = 5) (hn0 : zln k0 = n0) (hn1 : zln k1 = n1) {n : Int32} (h3 : ¬ n < 0) (h4 : n.toNatClampNeg ≤ n0) (h5 : n.toNatClampNeg ≤ n1) (hw1 : Cond.methodLink own index arraycopyName ∈ TB) (hw2 : Cond.native arraycopyName ∈ TB) (hw3 : Cond.static arraycopyName ∈ TB) (hw4 : Cond.initialized "java/lang/System" ∈ TB) (hframes : 1 ≤ R.frames) (hlocals : (st.map fun v => v.category).sum + (nativeFrameWords "java/lang/System" "arraycopy" 5 + 11) ≤ R.locals) (d : decode cc pc = .ok (.invokestatic index, 3)) (k : ∀ z : MU, z = u1 u k1 (va_cpy (u k0) (u k1) 0 0 n.toNatClampNeg) → WM p l e R s m args below meth c g nL cells slots Q (pc + 3) lv st (z, W)) : WM p l e R s m args below meth c g nL cells slots Q pc lv (.int n :: .int 0 :: .ref (g.2.2.1 k1) :: .int 0 :: .ref (g.2.2.1 k0) :: st) (u, W) := zm_copy C hk0 hk1 hn0 hn1 h3 h4 h5 rfl hw1 hw2 hw3 hw4 hframes hlocals d (k _ rfl)
def zP0 {α : Type} (M : Mem) (Q : α → Prop) : α → Mem → Prop := fun r M1 => M = M1 ∧ Q r
def zPx {α : Type} (W : MU × ((Nat → Int64) × (Nat → UInt64))) (Q : α → MU → Prop) : α → Mem → Prop := fun r M1 => ∃ u, M1 = (u, W) ∧ Q r u
def zPxv (W : MU × ((Nat → Int64) × (Nat → UInt64))) (Q : MU → Prop) : Mem → Prop := fun M1 => ∃ u, M1 = (u, W) ∧ Q u
def zXx (W : MU × ((Nat → Int64) × (Nat → UInt64))) (X : String → MU → Prop) : String → Mem → Prop := fun E M1 => ∃ u, M1 = (u, W) ∧ X E u
theorem gf_RX0_11 {c : Code} (C : zCx p l s m args meth c g RX0 cc nL) (hk : zkd k0 = 7) (he : k0 + 1 = k1) (d : decode cc pc = .ok (.getfield 11, 3)) (k : WM p l e R s m args below meth c g nL cells slots Q (pc + 3) lv (.ref (g.2.2.1 k1) :: st) M) : WM p l e R s m args below meth c g nL cells slots Q pc lv (.ref (g.2.2.1 k0) :: st) M := by
  subst he
  exact fun H locs ls hl hp hs => va_get (D := g.1) (ci := 0) (C := RX0) (T := TX0) (N := 3) C.hx C.hb C.ht iX0 C.hown C.hK hp.1 k0 (by rw [zW_at g _ (zkd_lt hk (by decide)), zCell_k hk]; rfl) rfl 0 (by decide) (C.ht _ wd_137) (fun _ h9 => h9) rfl d (k H locs ls hl hp hs)
theorem gf_RX0_18 {c : Code} (C : zCx p l s m args meth c g RX0 cc nL) (hk : zkd k0 = 7) (d : decode cc pc = .ok (.getfield 18, 3)) (k : WM p l e R s m args below meth c g nL cells slots Q (pc + 3) lv (.int (u k0 2) :: st) (u, W)) : WM p l e R s m args below meth c g nL cells slots Q pc lv (.ref (g.2.2.1 k0) :: st) (u, W) := fun H locs ls hl hp hs => va_get (D := g.1) (ci := 0) (C := RX0) (T := TX0) (N := 3) C.hx C.hb C.ht iX0 C.hown C.hK hp.1 k0 (by rw [zW_at g _ (zkd_lt hk (by decide)), zCell_k hk]; rfl) rfl 2 (by decide) (C.ht _ wd_140) (fun _ h9 => h9) rfl d (k H locs ls hl hp hs)
theorem gf_RX0_30 {c : Code} (C : zCx p l s m args meth c g RX0 cc nL) (hk : zkd k0 = 7) (d : decode cc pc = .ok (.getfield 30, 3)) (k : WM p l e R s m args below meth c g nL cells slots Q (pc + 3) lv (.int (u k0 1) :: st) (u, W)) : WM p l e R s m args below meth c g nL cells slots Q pc lv (.ref (g.2.2.1 k0) :: st) (u, W) := fun H locs ls hl hp hs => va_get (D := g.1) (ci := 0) (C := RX0) (T := TX0) (N := 3) C.hx C.hb C.ht iX0 C.hown C.hK hp.1 k0 (by rw [zW_at g _ (zkd_lt hk (by decide)), zCell_k hk]; rfl) rfl 1 (by decide) (C.ht _ wd_138) (fun _ h9 => h9) rfl d (k H locs ls hl hp hs)
theorem gf_RX1_15 {c : Code} (C : zCx p l s m args meth c g RX1 cc nL) (hk : zkd k0 = 3) (he : k0 + 1 = k1) (d : decode cc pc = .ok (.getfield 15, 3)) (k : WM p l e R s m args below meth c g nL cells slots Q (pc + 3) lv (.ref (g.2.2.1 k1) :: st) M) : WM p l e R s m args below meth c g nL cells slots Q pc lv (.ref (g.2.2.1 k0) :: st) M := by
  subst he
  exact fun H locs ls hl hp hs => va_get (D := g.1) (ci := 1) (C := RX1) (T := TX1) (N := 8) C.hx C.hb C.ht iX1 C.hown C.hK hp.1 k0 (by rw [zW_at g _ (zkd_lt hk (by decide)), zCell_k hk]; rfl) rfl 5 (by decide) (C.ht _ wd_68) (fun _ h9 => h9) rfl d (k H locs ls hl hp hs)
theorem gf_RX1_19 {c : Code} (C : zCx p l s m args meth c g RX1 cc nL) (hk : zkd k0 = 3) (he : k0 + 2 = k1) (d : decode cc pc = .ok (.getfield 19, 3)) (k : WM p l e R s m args below meth c g nL cells slots Q (pc + 3) lv (.ref (g.2.2.1 k1) :: st) M) : WM p l e R s m args below meth c g nL cells slots Q pc lv (.ref (g.2.2.1 k0) :: st) M := by
  subst he
  exact fun H locs ls hl hp hs => va_get (D := g.1) (ci := 1) (C := RX1) (T := TX1) (N := 8) C.hx C.hb C.ht iX1 C.hown C.hK hp.1 k0 (by rw [zW_at g _ (zkd_lt hk (by decide)), zCell_k hk]; rfl) rfl 6 (by decide) (C.ht _ wd_70) (fun _ h9 => h9) rfl d (k H locs ls hl hp hs)
theorem gf_RX1_22 {c : Code} (C : zCx p l s m args meth c g RX1 cc nL) (hk : zkd k0 = 3) (he : k0 + 3 = k1) (d : decode cc pc = .ok (.getfield 22, 3)) (k : WM p l e R s m args below meth c g nL cells slots Q (pc + 3) lv (.ref (g.2.2.1 k1) :: st) M) : WM p l e R s m args below meth c g nL cells slots Q pc lv (.ref (g.2.2.1 k0) :: st) M := by
  subst he
  exact fun H locs ls hl hp hs => va_get (D := g.1) (ci := 1) (C := RX1) (T := TX1) (N := 8) C.hx C.hb C.ht iX1 C.hown C.hK hp.1 k0 (by rw [zW_at g _ (zkd_lt hk (by decide)), zCell_k hk]; rfl) rfl 7 (by decide) (C.ht _ wd_72) (fun _ h9 => h9) rfl d (k H locs ls hl hp hs)
theorem gf_RX1_25 {c : Code} (C : zCx p l s m args meth c g RX1 cc nL) (hk : zkd k0 = 3) (d : decode cc pc = .ok (.getfield 25, 3)) (k : WM p l e R s m args below meth c g nL cells slots Q (pc + 3) lv (.int (u k0 0) :: st) (u, W)) : WM p l e R s m args below meth c g nL cells slots Q pc lv (.ref (g.2.2.1 k0) :: st) (u, W) := fun H locs ls hl hp hs => va_get (D := g.1) (ci := 1) (C := RX1) (T := TX1) (N := 8) C.hx C.hb C.ht iX1 C.hown C.hK hp.1 k0 (by rw [zW_at g _ (zkd_lt hk (by decide)), zCell_k hk]; rfl) rfl 0 (by decide) (C.ht _ wd_56) (fun _ h9 => h9) rfl d (k H locs ls hl hp hs)
theorem gf_RX1_28 {c : Code} (C : zCx p l s m args meth c g RX1 cc nL) (hk : zkd k0 = 3) (d : decode cc pc = .ok (.getfield 28, 3)) (k : WM p l e R s m args below meth c g nL cells slots Q (pc + 3) lv (.int (u k0 1) :: st) (u, W)) : WM p l e R s m args below meth c g nL cells slots Q pc lv (.ref (g.2.2.1 k0) :: st) (u, W) := fun H locs ls hl hp hs => va_get (D := g.1) (ci := 1) (C := RX1) (T := TX1) (N := 8) C.hx C.hb C.ht iX1 C.hown C.hK hp.1 k0 (by rw [zW_at g _ (zkd_lt hk (by decide)), zCell_k hk]; rfl) rfl 1 (by decide) (C.ht _ wd_58) (fun _ h9 => h9) rfl d (k H locs ls hl hp hs)
theorem gf_RX1_31 {c : Code} (C : zCx p l s m args meth c g RX1 cc nL) (hk : zkd k0 = 3) (d : decode cc pc = .ok (.getfield 31, 3)) (k : WM p l e R s m args below meth c g nL cells slots Q (pc + 3) lv (.int (u k0 2) :: st) (u, W)) : WM p l e R s m args below meth c g nL cells slots Q pc lv (.ref (g.2.2.1 k0) :: st) (u, W) := fun H locs ls hl hp hs => va_get (D := g.1) (ci := 1) (C := RX1) (T := TX1) (N := 8) C.hx C.hb C.ht iX1 C.hown C.hK hp.1 k0 (by rw [zW_at g _ (zkd_lt hk (by decide)), zCell_k hk]; rfl) rfl 2 (by decide) (C.ht _ wd_60) (fun _ h9 => h9) rfl d (k H locs ls hl hp hs)
theorem gf_RX1_34 {c : Code} (C : zCx p l s m args meth c g RX1 cc nL) (hk : zkd k0 = 3) (d : decode cc pc = .ok (.getfield 34, 3)) (k : WM p l e R s m args below meth c g nL cells slots Q (pc + 3) lv (.int (u k0 4) :: st) (u, W)) : WM p l e R s m args below meth c g nL cells slots Q pc lv (.ref (g.2.2.1 k0) :: st) (u, W) := fun H locs ls hl hp hs => va_get (D := g.1) (ci := 1) (C := RX1) (T := TX1) (N := 8) C.hx C.hb C.ht iX1 C.hown C.hK hp.1 k0 (by rw [zW_at g _ (zkd_lt hk (by decide)), zCell_k hk]; rfl) rfl 4 (by decide) (C.ht _ wd_66) (fun _ h9 => h9) rfl d (k H locs ls hl hp hs)
theorem gf_RX1_9 {c : Code} (C : zCx p l s m args meth c g RX1 cc nL) (hk : zkd k0 = 3) (d : decode cc pc = .ok (.getfield 9, 3)) (k : WM p l e R s m args below meth c g nL cells slots Q (pc + 3) lv (.int (u k0 3) :: st) (u, W)) : WM p l e R s m args below meth c g nL cells slots Q pc lv (.ref (g.2.2.1 k0) :: st) (u, W) := fun H locs ls hl hp hs => va_get (D := g.1) (ci := 1) (C := RX1) (T := TX1) (N := 8) C.hx C.hb C.ht iX1 C.hown C.hK hp.1 k0 (by rw [zW_at g _ (zkd_lt hk (by decide)), zCell_k hk]; rfl) rfl 3 (by decide) (C.ht _ wd_62) (fun _ h9 => h9) rfl d (k H locs ls hl hp hs)
theorem gf_RX2_15 {c : Code} (C : zCx p l s m args meth c g RX2 cc nL) (hk : zkd k0 = 4) (he : k0 + 2 = k1) (d : decode cc pc = .ok (.getfield 15, 3)) (k : WM p l e R s m args below meth c g nL cells slots Q (pc + 3) lv (.ref (g.2.2.1 k1) :: st) M) : WM p l e R s m args below meth c g nL cells slots Q pc lv (.ref (g.2.2.1 k0) :: st) M := by
  subst he
  exact fun H locs ls hl hp hs => va_get (D := g.1) (ci := 2) (C := RX2) (T := TX2) (N := 4) C.hx C.hb C.ht iX2 C.hown C.hK hp.1 k0 (by rw [zW_at g _ (zkd_lt hk (by decide)), zCell_k hk]; rfl) rfl 3 (by decide) (C.ht _ wd_104) (fun _ h9 => h9) rfl d (k H locs ls hl hp hs)
theorem gf_RX2_18 {c : Code} (C : zCx p l s m args meth c g RX2 cc nL) (hk : zkd k0 = 4) (d : decode cc pc = .ok (.getfield 18, 3)) (k : WM p l e R s m args below meth c g nL cells slots Q (pc + 3) lv (.int (u k0 0) :: st) (u, W)) : WM p l e R s m args below meth c g nL cells slots Q pc lv (.ref (g.2.2.1 k0) :: st) (u, W) := fun H locs ls hl hp hs => va_get (D := g.1) (ci := 2) (C := RX2) (T := TX2) (N := 4) C.hx C.hb C.ht iX2 C.hown C.hK hp.1 k0 (by rw [zW_at g _ (zkd_lt hk (by decide)), zCell_k hk]; rfl) rfl 0 (by decide) (C.ht _ wd_98) (fun _ h9 => h9) rfl d (k H locs ls hl hp hs)
theorem gf_RX2_22 {c : Code} (C : zCx p l s m args meth c g RX2 cc nL) (hk : zkd k0 = 4) (d : decode cc pc = .ok (.getfield 22, 3)) (k : WM p l e R s m args below meth c g nL cells slots Q (pc + 3) lv (.int (u k0 1) :: st) (u, W)) : WM p l e R s m args below meth c g nL cells slots Q pc lv (.ref (g.2.2.1 k0) :: st) (u, W) := fun H locs ls hl hp hs => va_get (D := g.1) (ci := 2) (C := RX2) (T := TX2) (N := 4) C.hx C.hb C.ht iX2 C.hown C.hK hp.1 k0 (by rw [zW_at g _ (zkd_lt hk (by decide)), zCell_k hk]; rfl) rfl 1 (by decide) (C.ht _ wd_100) (fun _ h9 => h9) rfl d (k H locs ls hl hp hs)
theorem gf_RX2_9 {c : Code} (C : zCx p l s m args meth c g RX2 cc nL) (hk : zkd k0 = 4) (he : k0 + 1 = k1) (d : decode cc pc = .ok (.getfield 9, 3)) (k : WM p l e R s m args below meth c g nL cells slots Q (pc + 3) lv (.ref (g.2.2.1 k1) :: st) M) : WM p l e R s m args below meth c g nL cells slots Q pc lv (.ref (g.2.2.1 k0) :: st) M := by
  subst he
  exact fun H locs ls hl hp hs => va_get (D := g.1) (ci := 2) (C := RX2) (T := TX2) (N := 4) C.hx C.hb C.ht iX2 C.hown C.hK hp.1 k0 (by rw [zW_at g _ (zkd_lt hk (by decide)), zCell_k hk]; rfl) rfl 2 (by decide) (C.ht _ wd_102) (fun _ h9 => h9) rfl d (k H locs ls hl hp hs)
theorem gf_RX3_15 {c : Code} (C : zCx p l s m args meth c g RX3 cc nL) (hk : zkd k0 = 12) (he : k0 + 2 = k1) (d : decode cc pc = .ok (.getfield 15, 3)) (k : WM p l e R s m args below meth c g nL cells slots Q (pc + 3) lv (.ref (g.2.2.1 k1) :: st) M) : WM p l e R s m args below meth c g nL cells slots Q pc lv (.ref (g.2.2.1 k0) :: st) M := by
  subst he
  exact fun H locs ls hl hp hs => va_get (D := g.1) (ci := 3) (C := RX3) (T := TX3) (N := 5) C.hx C.hb C.ht iX3 C.hown C.hK hp.1 k0 (by rw [zW_at g _ (zkd_lt hk (by decide)), zCell_k hk]; rfl) rfl 2 (by decide) (C.ht _ wd_218) (fun _ h9 => h9) rfl d (k H locs ls hl hp hs)
theorem gf_RX3_18 {c : Code} (C : zCx p l s m args meth c g RX3 cc nL) (hk : zkd k0 = 12) (he : k0 + 3 = k1) (d : decode cc pc = .ok (.getfield 18, 3)) (k : WM p l e R s m args below meth c g nL cells slots Q (pc + 3) lv (.ref (g.2.2.1 k1) :: st) M) : WM p l e R s m args below meth c g nL cells slots Q pc lv (.ref (g.2.2.1 k0) :: st) M := by
  subst he
  exact fun H locs ls hl hp hs => va_get (D := g.1) (ci := 3) (C := RX3) (T := TX3) (N := 5) C.hx C.hb C.ht iX3 C.hown C.hK hp.1 k0 (by rw [zW_at g _ (zkd_lt hk (by decide)), zCell_k hk]; rfl) rfl 3 (by decide) (C.ht _ wd_220) (fun _ h9 => h9) rfl d (k H locs ls hl hp hs)
theorem gf_RX3_21 {c : Code} (C : zCx p l s m args meth c g RX3 cc nL) (hk : zkd k0 = 12) (d : decode cc pc = .ok (.getfield 21, 3)) (k : WM p l e R s m args below meth c g nL cells slots Q (pc + 3) lv (.int (u k0 4) :: st) (u, W)) : WM p l e R s m args below meth c g nL cells slots Q pc lv (.ref (g.2.2.1 k0) :: st) (u, W) := fun H locs ls hl hp hs => va_get (D := g.1) (ci := 3) (C := RX3) (T := TX3) (N := 5) C.hx C.hb C.ht iX3 C.hown C.hK hp.1 k0 (by rw [zW_at g _ (zkd_lt hk (by decide)), zCell_k hk]; rfl) rfl 4 (by decide) (C.ht _ wd_222) (fun _ h9 => h9) rfl d (k H locs ls hl hp hs)
theorem gf_RX3_25 {c : Code} (C : zCx p l s m args meth c g RX3 cc nL) (hk : zkd k0 = 12) (d : decode cc pc = .ok (.getfield 25, 3)) (k : WM p l e R s m args below meth c g nL cells slots Q (pc + 3) lv (.int (u k0 0) :: st) (u, W)) : WM p l e R s m args below meth c g nL cells slots Q pc lv (.ref (g.2.2.1 k0) :: st) (u, W) := fun H locs ls hl hp hs => va_get (D := g.1) (ci := 3) (C := RX3) (T := TX3) (N := 5) C.hx C.hb C.ht iX3 C.hown C.hK hp.1 k0 (by rw [zW_at g _ (zkd_lt hk (by decide)), zCell_k hk]; rfl) rfl 0 (by decide) (C.ht _ wd_214) (fun _ h9 => h9) rfl d (k H locs ls hl hp hs)
theorem gf_RX3_32 {c : Code} (C : zCx p l s m args meth c g RX3 cc nL) (hk : zkd k0 = 11) (d : decode cc pc = .ok (.getfield 32, 3)) (k : WM p l e R s m args below meth c g nL cells slots Q (pc + 3) lv (.int (u k0 0) :: st) (u, W)) : WM p l e R s m args below meth c g nL cells slots Q pc lv (.ref (g.2.2.1 k0) :: st) (u, W) := fun H locs ls hl hp hs => va_get (D := g.1) (ci := 8) (C := RX8) (T := TX8) (N := 2) C.hx C.hb C.ht iX8 C.hown C.hK hp.1 k0 (by rw [zW_at g _ (zkd_lt hk (by decide)), zCell_k hk]; rfl) rfl 0 (by decide) (C.ht _ wd_199) (fun _ h9 => h9) rfl d (k H locs ls hl hp hs)
theorem gf_RX3_9 {c : Code} (C : zCx p l s m args meth c g RX3 cc nL) (hk : zkd k0 = 12) (he : k0 + 1 = k1) (d : decode cc pc = .ok (.getfield 9, 3)) (k : WM p l e R s m args below meth c g nL cells slots Q (pc + 3) lv (.ref (g.2.2.1 k1) :: st) M) : WM p l e R s m args below meth c g nL cells slots Q pc lv (.ref (g.2.2.1 k0) :: st) M := by
  subst he
  exact fun H locs ls hl hp hs => va_get (D := g.1) (ci := 3) (C := RX3) (T := TX3) (N := 5) C.hx C.hb C.ht iX3 C.hown C.hK hp.1 k0 (by rw [zW_at g _ (zkd_lt hk (by decide)), zCell_k hk]; rfl) rfl 1 (by decide) (C.ht _ wd_216) (fun _ h9 => h9) rfl d (k H locs ls hl hp hs)
theorem gf_RX5_15 {c : Code} (C : zCx p l s m args meth c g RX5 cc nL) (hk : zkd k0 = 10) (he : k0 + 1 = k1) (d : decode cc pc = .ok (.getfield 15, 3)) (k : WM p l e R s m args below meth c g nL cells slots Q (pc + 3) lv (.ref (g.2.2.1 k1) :: st) M) : WM p l e R s m args below meth c g nL cells slots Q pc lv (.ref (g.2.2.1 k0) :: st) M := by
  subst he
  exact fun H locs ls hl hp hs => va_get (D := g.1) (ci := 5) (C := RX5) (T := TX5) (N := 3) C.hx C.hb C.ht iX5 C.hown C.hK hp.1 k0 (by rw [zW_at g _ (zkd_lt hk (by decide)), zCell_k hk]; rfl) rfl 1 (by decide) (C.ht _ wd_183) (fun _ h9 => h9) rfl d (k H locs ls hl hp hs)
theorem gf_RX5_19 {c : Code} (C : zCx p l s m args meth c g RX5 cc nL) (hk : zkd k0 = 10) (he : k0 + 2 = k1) (d : decode cc pc = .ok (.getfield 19, 3)) (k : WM p l e R s m args below meth c g nL cells slots Q (pc + 3) lv (.ref (g.2.2.1 k1) :: st) M) : WM p l e R s m args below meth c g nL cells slots Q pc lv (.ref (g.2.2.1 k0) :: st) M := by
  subst he
  exact fun H locs ls hl hp hs => va_get (D := g.1) (ci := 5) (C := RX5) (T := TX5) (N := 3) C.hx C.hb C.ht iX5 C.hown C.hK hp.1 k0 (by rw [zW_at g _ (zkd_lt hk (by decide)), zCell_k hk]; rfl) rfl 2 (by decide) (C.ht _ wd_184) (fun _ h9 => h9) rfl d (k H locs ls hl hp hs)
theorem gf_RX5_22 {c : Code} (C : zCx p l s m args meth c g RX5 cc nL) (hk : zkd k0 = 3) (d : decode cc pc = .ok (.getfield 22, 3)) (k : WM p l e R s m args below meth c g nL cells slots Q (pc + 3) lv (.int (u k0 4) :: st) (u, W)) : WM p l e R s m args below meth c g nL cells slots Q pc lv (.ref (g.2.2.1 k0) :: st) (u, W) := fun H locs ls hl hp hs => va_get (D := g.1) (ci := 1) (C := RX1) (T := TX1) (N := 8) C.hx C.hb C.ht iX1 C.hown C.hK hp.1 k0 (by rw [zW_at g _ (zkd_lt hk (by decide)), zCell_k hk]; rfl) rfl 4 (by decide) (C.ht _ wd_65) (fun _ h9 => h9) rfl d (k H locs ls hl hp hs)
theorem gf_RX5_9 {c : Code} (C : zCx p l s m args meth c g RX5 cc nL) (hk : zkd k0 = 10) (d : decode cc pc = .ok (.getfield 9, 3)) (k : WM p l e R s m args below meth c g nL cells slots Q (pc + 3) lv (.int (u k0 0) :: st) (u, W)) : WM p l e R s m args below meth c g nL cells slots Q pc lv (.ref (g.2.2.1 k0) :: st) (u, W) := fun H locs ls hl hp hs => va_get (D := g.1) (ci := 5) (C := RX5) (T := TX5) (N := 3) C.hx C.hb C.ht iX5 C.hown C.hK hp.1 k0 (by rw [zW_at g _ (zkd_lt hk (by decide)), zCell_k hk]; rfl) rfl 0 (by decide) (C.ht _ wd_182) (fun _ h9 => h9) rfl d (k H locs ls hl hp hs)
theorem gf_RX6_10 {c : Code} (C : zCx p l s m args meth c g RX6 cc nL) (hk : zkd k0 = 2) (he : k0 + 1 = k1) (d : decode cc pc = .ok (.getfield 10, 3)) (k : WM p l e R s m args below meth c g nL cells slots Q (pc + 3) lv (.ref (g.2.2.1 k1) :: st) M) : WM p l e R s m args below meth c g nL cells slots Q pc lv (.ref (g.2.2.1 k0) :: st) M := by
  subst he
  exact fun H locs ls hl hp hs => va_get (D := g.1) (ci := 6) (C := RX6) (T := TX6) (N := 3) C.hx C.hb C.ht iX6 C.hown C.hK hp.1 k0 (by rw [zW_at g _ (zkd_lt hk (by decide)), zCell_k hk]; rfl) rfl 0 (by decide) (C.ht _ wd_115) (fun _ h9 => h9) rfl d (k H locs ls hl hp hs)
theorem gf_RX6_19 {c : Code} (C : zCx p l s m args meth c g RX6 cc nL) (hk : zkd k0 = 2) (he : k0 + 5 = k1) (d : decode cc pc = .ok (.getfield 19, 3)) (k : WM p l e R s m args below meth c g nL cells slots Q (pc + 3) lv (.ref (g.2.2.1 k1) :: st) M) : WM p l e R s m args below meth c g nL cells slots Q pc lv (.ref (g.2.2.1 k0) :: st) M := by
  subst he
  exact fun H locs ls hl hp hs => va_get (D := g.1) (ci := 6) (C := RX6) (T := TX6) (N := 3) C.hx C.hb C.ht iX6 C.hown C.hK hp.1 k0 (by rw [zW_at g _ (zkd_lt hk (by decide)), zCell_k hk]; rfl) rfl 1 (by decide) (C.ht _ wd_117) (fun _ h9 => h9) rfl d (k H locs ls hl hp hs)
theorem gf_RX6_30 {c : Code} (C : zCx p l s m args meth c g RX6 cc nL) (hk : zkd k0 = 2) (d : decode cc pc = .ok (.getfield 30, 3)) (k : WM p l e R s m args below meth c g nL cells slots Q (pc + 3) lv (.int (u k0 2) :: st) (u, W)) : WM p l e R s m args below meth c g nL cells slots Q pc lv (.ref (g.2.2.1 k0) :: st) (u, W) := fun H locs ls hl hp hs => va_get (D := g.1) (ci := 6) (C := RX6) (T := TX6) (N := 3) C.hx C.hb C.ht iX6 C.hown C.hK hp.1 k0 (by rw [zW_at g _ (zkd_lt hk (by decide)), zCell_k hk]; rfl) rfl 2 (by decide) (C.ht _ wd_119) (fun _ h9 => h9) rfl d (k H locs ls hl hp hs)
theorem gf_RX7_15 {c : Code} (C : zCx p l s m args meth c g RX7 cc nL) (hk : zkd k0 = 9) (he : k0 + 1 = k1) (d : decode cc pc = .ok (.getfield 15, 3)) (k : WM p l e R s m args below meth c g nL cells slots Q (pc + 3) lv (.ref (g.2.2.1 k1) :: st) M) : WM p l e R s m args below meth c g nL cells slots Q pc lv (.ref (g.2.2.1 k0) :: st) M := by
  subst he
  exact fun H locs ls hl hp hs => va_get (D := g.1) (ci := 7) (C := RX7) (T := TX7) (N := 6) C.hx C.hb C.ht iX7 C.hown C.hK hp.1 k0 (by rw [zW_at g _ (zkd_lt hk (by decide)), zCell_k hk]; rfl) rfl 2 (by decide) (C.ht _ wd_159) (fun _ h9 => h9) rfl d (k H locs ls hl hp hs)
theorem gf_RX7_19 {c : Code} (C : zCx p l s m args meth c g RX7 cc nL) (hk : zkd k0 = 9) (he : k0 + 2 = k1) (d : decode cc pc = .ok (.getfield 19, 3)) (k : WM p l e R s m args below meth c g nL cells slots Q (pc + 3) lv (.ref (g.2.2.1 k1) :: st) M) : WM p l e R s m args below meth c g nL cells slots Q pc lv (.ref (g.2.2.1 k0) :: st) M := by
  subst he
  exact fun H locs ls hl hp hs => va_get (D := g.1) (ci := 7) (C := RX7) (T := TX7) (N := 6) C.hx C.hb C.ht iX7 C.hown C.hK hp.1 k0 (by rw [zW_at g _ (zkd_lt hk (by decide)), zCell_k hk]; rfl) rfl 3 (by decide) (C.ht _ wd_160) (fun _ h9 => h9) rfl d (k H locs ls hl hp hs)
theorem gf_RX7_22 {c : Code} (C : zCx p l s m args meth c g RX7 cc nL) (hk : zkd k0 = 9) (he : k0 + 3 = k1) (d : decode cc pc = .ok (.getfield 22, 3)) (k : WM p l e R s m args below meth c g nL cells slots Q (pc + 3) lv (.ref (g.2.2.1 k1) :: st) M) : WM p l e R s m args below meth c g nL cells slots Q pc lv (.ref (g.2.2.1 k0) :: st) M := by
  subst he
  exact fun H locs ls hl hp hs => va_get (D := g.1) (ci := 7) (C := RX7) (T := TX7) (N := 6) C.hx C.hb C.ht iX7 C.hown C.hK hp.1 k0 (by rw [zW_at g _ (zkd_lt hk (by decide)), zCell_k hk]; rfl) rfl 4 (by decide) (C.ht _ wd_161) (fun _ h9 => h9) rfl d (k H locs ls hl hp hs)
theorem gf_RX7_25 {c : Code} (C : zCx p l s m args meth c g RX7 cc nL) (hk : zkd k0 = 9) (he : k0 + 4 = k1) (d : decode cc pc = .ok (.getfield 25, 3)) (k : WM p l e R s m args below meth c g nL cells slots Q (pc + 3) lv (.ref (g.2.2.1 k1) :: st) M) : WM p l e R s m args below meth c g nL cells slots Q pc lv (.ref (g.2.2.1 k0) :: st) M := by
  subst he
  exact fun H locs ls hl hp hs => va_get (D := g.1) (ci := 7) (C := RX7) (T := TX7) (N := 6) C.hx C.hb C.ht iX7 C.hown C.hK hp.1 k0 (by rw [zW_at g _ (zkd_lt hk (by decide)), zCell_k hk]; rfl) rfl 5 (by decide) (C.ht _ wd_162) (fun _ h9 => h9) rfl d (k H locs ls hl hp hs)
theorem gf_RX7_28 {c : Code} (C : zCx p l s m args meth c g RX7 cc nL) (hk : zkd k0 = 3) (d : decode cc pc = .ok (.getfield 28, 3)) (k : WM p l e R s m args below meth c g nL cells slots Q (pc + 3) lv (.int (u k0 4) :: st) (u, W)) : WM p l e R s m args below meth c g nL cells slots Q pc lv (.ref (g.2.2.1 k0) :: st) (u, W) := fun H locs ls hl hp hs => va_get (D := g.1) (ci := 1) (C := RX1) (T := TX1) (N := 8) C.hx C.hb C.ht iX1 C.hown C.hK hp.1 k0 (by rw [zW_at g _ (zkd_lt hk (by decide)), zCell_k hk]; rfl) rfl 4 (by decide) (C.ht _ wd_64) (fun _ h9 => h9) rfl d (k H locs ls hl hp hs)
theorem gf_RX7_37 {c : Code} (C : zCx p l s m args meth c g RX7 cc nL) (hk : zkd k0 = 9) (d : decode cc pc = .ok (.getfield 37, 3)) (k : WM p l e R s m args below meth c g nL cells slots Q (pc + 3) lv (.int (u k0 0) :: st) (u, W)) : WM p l e R s m args below meth c g nL cells slots Q pc lv (.ref (g.2.2.1 k0) :: st) (u, W) := fun H locs ls hl hp hs => va_get (D := g.1) (ci := 7) (C := RX7) (T := TX7) (N := 6) C.hx C.hb C.ht iX7 C.hown C.hK hp.1 k0 (by rw [zW_at g _ (zkd_lt hk (by decide)), zCell_k hk]; rfl) rfl 0 (by decide) (C.ht _ wd_156) (fun _ h9 => h9) rfl d (k H locs ls hl hp hs)
theorem gf_RX7_9 {c : Code} (C : zCx p l s m args meth c g RX7 cc nL) (hk : zkd k0 = 9) (d : decode cc pc = .ok (.getfield 9, 3)) (k : WM p l e R s m args below meth c g nL cells slots Q (pc + 3) lv (.int (u k0 1) :: st) (u, W)) : WM p l e R s m args below meth c g nL cells slots Q pc lv (.ref (g.2.2.1 k0) :: st) (u, W) := fun H locs ls hl hp hs => va_get (D := g.1) (ci := 7) (C := RX7) (T := TX7) (N := 6) C.hx C.hb C.ht iX7 C.hown C.hK hp.1 k0 (by rw [zW_at g _ (zkd_lt hk (by decide)), zCell_k hk]; rfl) rfl 1 (by decide) (C.ht _ wd_158) (fun _ h9 => h9) rfl d (k H locs ls hl hp hs)
theorem gf_RX8_15 {c : Code} (C : zCx p l s m args meth c g RX8 cc nL) (hk : zkd k0 = 11) (d : decode cc pc = .ok (.getfield 15, 3)) (k : WM p l e R s m args below meth c g nL cells slots Q (pc + 3) lv (.int (u k0 0) :: st) (u, W)) : WM p l e R s m args below meth c g nL cells slots Q pc lv (.ref (g.2.2.1 k0) :: st) (u, W) := fun H locs ls hl hp hs => va_get (D := g.1) (ci := 8) (C := RX8) (T := TX8) (N := 2) C.hx C.hb C.ht iX8 C.hown C.hK hp.1 k0 (by rw [zW_at g _ (zkd_lt hk (by decide)), zCell_k hk]; rfl) rfl 0 (by decide) (C.ht _ wd_198) (fun _ h9 => h9) rfl d (k H locs ls hl hp hs)
theorem gf_RX8_9 {c : Code} (C : zCx p l s m args meth c g RX8 cc nL) (hk : zkd k0 = 11) (he : k0 + 1 = k1) (d : decode cc pc = .ok (.getfield 9, 3)) (k : WM p l e R s m args below meth c g nL cells slots Q (pc + 3) lv (.ref (g.2.2.1 k1) :: st) M) : WM p l e R s m args below meth c g nL cells slots Q pc lv (.ref (g.2.2.1 k0) :: st) M := by
  subst he
  exact fun H locs ls hl hp hs => va_get (D := g.1) (ci := 8) (C := RX8) (T := TX8) (N := 2) C.hx C.hb C.ht iX8 C.hown C.hK hp.1 k0 (by rw [zW_at g _ (zkd_lt hk (by decide)), zCell_k hk]; rfl) rfl 1 (by decide) (C.ht _ wd_201) (fun _ h9 => h9) rfl d (k H locs ls hl hp hs)
theorem gf_RX9_10 {c : Code} (C : zCx p l s m args meth c g RX9 cc nL) (hk : zkd k0 = 1) (he : 1 = k1) (d : decode cc pc = .ok (.getfield 10, 3)) (k : WM p l e R s m args below meth c g nL cells slots Q (pc + 3) lv (.ref (g.2.2.1 k1) :: st) M) : WM p l e R s m args below meth c g nL cells slots Q pc lv (.ref (g.2.2.1 k0) :: st) M := by
  subst he
  exact fun H locs ls hl hp hs => va_get (D := g.1) (ci := 9) (C := RX9) (T := TX9) (N := 16) C.hx C.hb C.ht iX9 C.hown C.hK hp.1 k0 (by rw [zW_at g _ (zkd_lt hk (by decide)), zCell_k hk]; rfl) rfl 0 (by decide) (C.ht _ wd_253) (fun _ h9 => h9) rfl d (k H locs ls hl hp hs)
theorem gf_RX9_118 {c : Code} (C : zCx p l s m args meth c g RX9 cc nL) (hk : zkd k0 = 2) (he : k0 + 5 = k1) (d : decode cc pc = .ok (.getfield 118, 3)) (k : WM p l e R s m args below meth c g nL cells slots Q (pc + 3) lv (.ref (g.2.2.1 k1) :: st) M) : WM p l e R s m args below meth c g nL cells slots Q pc lv (.ref (g.2.2.1 k0) :: st) M := by
  subst he
  exact fun H locs ls hl hp hs => va_get (D := g.1) (ci := 6) (C := RX6) (T := TX6) (N := 3) C.hx C.hb C.ht iX6 C.hown C.hK hp.1 k0 (by rw [zW_at g _ (zkd_lt hk (by decide)), zCell_k hk]; rfl) rfl 1 (by decide) (C.ht _ wd_118) (fun _ h9 => h9) rfl d (k H locs ls hl hp hs)
theorem gf_RX9_122 {c : Code} (C : zCx p l s m args meth c g RX9 cc nL) (hk : zkd k0 = 4) (d : decode cc pc = .ok (.getfield 122, 3)) (k : WM p l e R s m args below meth c g nL cells slots Q (pc + 3) lv (.int (u k0 0) :: st) (u, W)) : WM p l e R s m args below meth c g nL cells slots Q pc lv (.ref (g.2.2.1 k0) :: st) (u, W) := fun H locs ls hl hp hs => va_get (D := g.1) (ci := 2) (C := RX2) (T := TX2) (N := 4) C.hx C.hb C.ht iX2 C.hown C.hK hp.1 k0 (by rw [zW_at g _ (zkd_lt hk (by decide)), zCell_k hk]; rfl) rfl 0 (by decide) (C.ht _ wd_99) (fun _ h9 => h9) rfl d (k H locs ls hl hp hs)
theorem gf_RX9_138 {c : Code} (C : zCx p l s m args meth c g RX9 cc nL) (hk : zkd k0 = 2) (he : k0 + 1 = k1) (d : decode cc pc = .ok (.getfield 138, 3)) (k : WM p l e R s m args below meth c g nL cells slots Q (pc + 3) lv (.ref (g.2.2.1 k1) :: st) M) : WM p l e R s m args below meth c g nL cells slots Q pc lv (.ref (g.2.2.1 k0) :: st) M := by
  subst he
  exact fun H locs ls hl hp hs => va_get (D := g.1) (ci := 6) (C := RX6) (T := TX6) (N := 3) C.hx C.hb C.ht iX6 C.hown C.hK hp.1 k0 (by rw [zW_at g _ (zkd_lt hk (by decide)), zCell_k hk]; rfl) rfl 0 (by decide) (C.ht _ wd_116) (fun _ h9 => h9) rfl d (k H locs ls hl hp hs)
theorem gf_RX9_16 {c : Code} (C : zCx p l s m args meth c g RX9 cc nL) (hk : zkd k0 = 1) (he : 9 = k1) (d : decode cc pc = .ok (.getfield 16, 3)) (k : WM p l e R s m args below meth c g nL cells slots Q (pc + 3) lv (.ref (g.2.2.1 k1) :: st) M) : WM p l e R s m args below meth c g nL cells slots Q pc lv (.ref (g.2.2.1 k0) :: st) M := by
  subst he
  exact fun H locs ls hl hp hs => va_get (D := g.1) (ci := 9) (C := RX9) (T := TX9) (N := 16) C.hx C.hb C.ht iX9 C.hown C.hK hp.1 k0 (by rw [zW_at g _ (zkd_lt hk (by decide)), zCell_k hk]; rfl) rfl 1 (by decide) (C.ht _ wd_254) (fun _ h9 => h9) rfl d (k H locs ls hl hp hs)
theorem gf_RX9_19 {c : Code} (C : zCx p l s m args meth c g RX9 cc nL) (hk : zkd k0 = 1) (he : 17 = k1) (d : decode cc pc = .ok (.getfield 19, 3)) (k : WM p l e R s m args below meth c g nL cells slots Q (pc + 3) lv (.ref (g.2.2.1 k1) :: st) M) : WM p l e R s m args below meth c g nL cells slots Q pc lv (.ref (g.2.2.1 k0) :: st) M := by
  subst he
  exact fun H locs ls hl hp hs => va_get (D := g.1) (ci := 9) (C := RX9) (T := TX9) (N := 16) C.hx C.hb C.ht iX9 C.hown C.hK hp.1 k0 (by rw [zW_at g _ (zkd_lt hk (by decide)), zCell_k hk]; rfl) rfl 2 (by decide) (C.ht _ wd_255) (fun _ h9 => h9) rfl d (k H locs ls hl hp hs)
theorem gf_RX9_228 {c : Code} (C : zCx p l s m args meth c g RX9 cc nL) (hk : zkd k0 = 9) (d : decode cc pc = .ok (.getfield 228, 3)) (k : WM p l e R s m args below meth c g nL cells slots Q (pc + 3) lv (.int (u k0 0) :: st) (u, W)) : WM p l e R s m args below meth c g nL cells slots Q pc lv (.ref (g.2.2.1 k0) :: st) (u, W) := fun H locs ls hl hp hs => va_get (D := g.1) (ci := 7) (C := RX7) (T := TX7) (N := 6) C.hx C.hb C.ht iX7 C.hown C.hK hp.1 k0 (by rw [zW_at g _ (zkd_lt hk (by decide)), zCell_k hk]; rfl) rfl 0 (by decide) (C.ht _ wd_157) (fun _ h9 => h9) rfl d (k H locs ls hl hp hs)
theorem gf_RX9_25 {c : Code} (C : zCx p l s m args meth c g RX9 cc nL) (hk : zkd k0 = 1) (he : 25 = k1) (d : decode cc pc = .ok (.getfield 25, 3)) (k : WM p l e R s m args below meth c g nL cells slots Q (pc + 3) lv (.ref (g.2.2.1 k1) :: st) M) : WM p l e R s m args below meth c g nL cells slots Q pc lv (.ref (g.2.2.1 k0) :: st) M := by
  subst he
  exact fun H locs ls hl hp hs => va_get (D := g.1) (ci := 9) (C := RX9) (T := TX9) (N := 16) C.hx C.hb C.ht iX9 C.hown C.hK hp.1 k0 (by rw [zW_at g _ (zkd_lt hk (by decide)), zCell_k hk]; rfl) rfl 4 (by decide) (C.ht _ wd_257) (fun _ h9 => h9) rfl d (k H locs ls hl hp hs)
theorem gf_RX9_265 {c : Code} (C : zCx p l s m args meth c g RX9 cc nL) (hk : zkd k0 = 3) (d : decode cc pc = .ok (.getfield 265, 3)) (k : WM p l e R s m args below meth c g nL cells slots Q (pc + 3) lv (.int (u k0 0) :: st) (u, W)) : WM p l e R s m args below meth c g nL cells slots Q pc lv (.ref (g.2.2.1 k0) :: st) (u, W) := fun H locs ls hl hp hs => va_get (D := g.1) (ci := 1) (C := RX1) (T := TX1) (N := 8) C.hx C.hb C.ht iX1 C.hown C.hK hp.1 k0 (by rw [zW_at g _ (zkd_lt hk (by decide)), zCell_k hk]; rfl) rfl 0 (by decide) (C.ht _ wd_57) (fun _ h9 => h9) rfl d (k H locs ls hl hp hs)
theorem gf_RX9_278 {c : Code} (C : zCx p l s m args meth c g RX9 cc nL) (hk : zkd k0 = 3) (he : k0 + 3 = k1) (d : decode cc pc = .ok (.getfield 278, 3)) (k : WM p l e R s m args below meth c g nL cells slots Q (pc + 3) lv (.ref (g.2.2.1 k1) :: st) M) : WM p l e R s m args below meth c g nL cells slots Q pc lv (.ref (g.2.2.1 k0) :: st) M := by
  subst he
  exact fun H locs ls hl hp hs => va_get (D := g.1) (ci := 1) (C := RX1) (T := TX1) (N := 8) C.hx C.hb C.ht iX1 C.hown C.hK hp.1 k0 (by rw [zW_at g _ (zkd_lt hk (by decide)), zCell_k hk]; rfl) rfl 7 (by decide) (C.ht _ wd_73) (fun _ h9 => h9) rfl d (k H locs ls hl hp hs)
theorem gf_RX9_299 {c : Code} (C : zCx p l s m args meth c g RX9 cc nL) (hk : zkd k0 = 3) (d : decode cc pc = .ok (.getfield 299, 3)) (k : WM p l e R s m args below meth c g nL cells slots Q (pc + 3) lv (.int (u k0 1) :: st) (u, W)) : WM p l e R s m args below meth c g nL cells slots Q pc lv (.ref (g.2.2.1 k0) :: st) (u, W) := fun H locs ls hl hp hs => va_get (D := g.1) (ci := 1) (C := RX1) (T := TX1) (N := 8) C.hx C.hb C.ht iX1 C.hown C.hK hp.1 k0 (by rw [zW_at g _ (zkd_lt hk (by decide)), zCell_k hk]; rfl) rfl 1 (by decide) (C.ht _ wd_59) (fun _ h9 => h9) rfl d (k H locs ls hl hp hs)
theorem gf_RX9_304 {c : Code} (C : zCx p l s m args meth c g RX9 cc nL) (hk : zkd k0 = 3) (he : k0 + 2 = k1) (d : decode cc pc = .ok (.getfield 304, 3)) (k : WM p l e R s m args below meth c g nL cells slots Q (pc + 3) lv (.ref (g.2.2.1 k1) :: st) M) : WM p l e R s m args below meth c g nL cells slots Q pc lv (.ref (g.2.2.1 k0) :: st) M := by
  subst he
  exact fun H locs ls hl hp hs => va_get (D := g.1) (ci := 1) (C := RX1) (T := TX1) (N := 8) C.hx C.hb C.ht iX1 C.hown C.hK hp.1 k0 (by rw [zW_at g _ (zkd_lt hk (by decide)), zCell_k hk]; rfl) rfl 6 (by decide) (C.ht _ wd_71) (fun _ h9 => h9) rfl d (k H locs ls hl hp hs)
theorem gf_RX9_307 {c : Code} (C : zCx p l s m args meth c g RX9 cc nL) (hk : zkd k0 = 3) (he : k0 + 1 = k1) (d : decode cc pc = .ok (.getfield 307, 3)) (k : WM p l e R s m args below meth c g nL cells slots Q (pc + 3) lv (.ref (g.2.2.1 k1) :: st) M) : WM p l e R s m args below meth c g nL cells slots Q pc lv (.ref (g.2.2.1 k0) :: st) M := by
  subst he
  exact fun H locs ls hl hp hs => va_get (D := g.1) (ci := 1) (C := RX1) (T := TX1) (N := 8) C.hx C.hb C.ht iX1 C.hown C.hK hp.1 k0 (by rw [zW_at g _ (zkd_lt hk (by decide)), zCell_k hk]; rfl) rfl 5 (by decide) (C.ht _ wd_69) (fun _ h9 => h9) rfl d (k H locs ls hl hp hs)
theorem gf_RX9_319 {c : Code} (C : zCx p l s m args meth c g RX9 cc nL) (hk : zkd k0 = 3) (d : decode cc pc = .ok (.getfield 319, 3)) (k : WM p l e R s m args below meth c g nL cells slots Q (pc + 3) lv (.int (u k0 2) :: st) (u, W)) : WM p l e R s m args below meth c g nL cells slots Q pc lv (.ref (g.2.2.1 k0) :: st) (u, W) := fun H locs ls hl hp hs => va_get (D := g.1) (ci := 1) (C := RX1) (T := TX1) (N := 8) C.hx C.hb C.ht iX1 C.hown C.hK hp.1 k0 (by rw [zW_at g _ (zkd_lt hk (by decide)), zCell_k hk]; rfl) rfl 2 (by decide) (C.ht _ wd_61) (fun _ h9 => h9) rfl d (k H locs ls hl hp hs)
theorem gf_RX9_32 {c : Code} (C : zCx p l s m args meth c g RX9 cc nL) (hk : zkd k0 = 1) (he : 91 = k1) (d : decode cc pc = .ok (.getfield 32, 3)) (k : WM p l e R s m args below meth c g nL cells slots Q (pc + 3) lv (.ref (g.2.2.1 k1) :: st) M) : WM p l e R s m args below meth c g nL cells slots Q pc lv (.ref (g.2.2.1 k0) :: st) M := by
  subst he
  exact fun H locs ls hl hp hs => va_get (D := g.1) (ci := 9) (C := RX9) (T := TX9) (N := 16) C.hx C.hb C.ht iX9 C.hown C.hK hp.1 k0 (by rw [zW_at g _ (zkd_lt hk (by decide)), zCell_k hk]; rfl) rfl 5 (by decide) (C.ht _ wd_258) (fun _ h9 => h9) rfl d (k H locs ls hl hp hs)
theorem gf_RX9_322 {c : Code} (C : zCx p l s m args meth c g RX9 cc nL) (hk : zkd k0 = 3) (d : decode cc pc = .ok (.getfield 322, 3)) (k : WM p l e R s m args below meth c g nL cells slots Q (pc + 3) lv (.int (u k0 3) :: st) (u, W)) : WM p l e R s m args below meth c g nL cells slots Q pc lv (.ref (g.2.2.1 k0) :: st) (u, W) := fun H locs ls hl hp hs => va_get (D := g.1) (ci := 1) (C := RX1) (T := TX1) (N := 8) C.hx C.hb C.ht iX1 C.hown C.hK hp.1 k0 (by rw [zW_at g _ (zkd_lt hk (by decide)), zCell_k hk]; rfl) rfl 3 (by decide) (C.ht _ wd_63) (fun _ h9 => h9) rfl d (k H locs ls hl hp hs)
theorem gf_RX9_325 {c : Code} (C : zCx p l s m args meth c g RX9 cc nL) (hk : zkd k0 = 4) (d : decode cc pc = .ok (.getfield 325, 3)) (k : WM p l e R s m args below meth c g nL cells slots Q (pc + 3) lv (.int (u k0 1) :: st) (u, W)) : WM p l e R s m args below meth c g nL cells slots Q pc lv (.ref (g.2.2.1 k0) :: st) (u, W) := fun H locs ls hl hp hs => va_get (D := g.1) (ci := 2) (C := RX2) (T := TX2) (N := 4) C.hx C.hb C.ht iX2 C.hown C.hK hp.1 k0 (by rw [zW_at g _ (zkd_lt hk (by decide)), zCell_k hk]; rfl) rfl 1 (by decide) (C.ht _ wd_101) (fun _ h9 => h9) rfl d (k H locs ls hl hp hs)
theorem gf_RX9_328 {c : Code} (C : zCx p l s m args meth c g RX9 cc nL) (hk : zkd k0 = 2) (d : decode cc pc = .ok (.getfield 328, 3)) (k : WM p l e R s m args below meth c g nL cells slots Q (pc + 3) lv (.int (u k0 2) :: st) (u, W)) : WM p l e R s m args below meth c g nL cells slots Q pc lv (.ref (g.2.2.1 k0) :: st) (u, W) := fun H locs ls hl hp hs => va_get (D := g.1) (ci := 6) (C := RX6) (T := TX6) (N := 3) C.hx C.hb C.ht iX6 C.hown C.hK hp.1 k0 (by rw [zW_at g _ (zkd_lt hk (by decide)), zCell_k hk]; rfl) rfl 2 (by decide) (C.ht _ wd_120) (fun _ h9 => h9) rfl d (k H locs ls hl hp hs)
theorem gf_RX9_331 {c : Code} (C : zCx p l s m args meth c g RX9 cc nL) (hk : zkd k0 = 7) (d : decode cc pc = .ok (.getfield 331, 3)) (k : WM p l e R s m args below meth c g nL cells slots Q (pc + 3) lv (.int (u k0 1) :: st) (u, W)) : WM p l e R s m args below meth c g nL cells slots Q pc lv (.ref (g.2.2.1 k0) :: st) (u, W) := fun H locs ls hl hp hs => va_get (D := g.1) (ci := 0) (C := RX0) (T := TX0) (N := 3) C.hx C.hb C.ht iX0 C.hown C.hK hp.1 k0 (by rw [zW_at g _ (zkd_lt hk (by decide)), zCell_k hk]; rfl) rfl 1 (by decide) (C.ht _ wd_139) (fun _ h9 => h9) rfl d (k H locs ls hl hp hs)
theorem gf_RX9_333 {c : Code} (C : zCx p l s m args meth c g RX9 cc nL) (hk : zkd k0 = 11) (d : decode cc pc = .ok (.getfield 333, 3)) (k : WM p l e R s m args below meth c g nL cells slots Q (pc + 3) lv (.int (u k0 0) :: st) (u, W)) : WM p l e R s m args below meth c g nL cells slots Q pc lv (.ref (g.2.2.1 k0) :: st) (u, W) := fun H locs ls hl hp hs => va_get (D := g.1) (ci := 8) (C := RX8) (T := TX8) (N := 2) C.hx C.hb C.ht iX8 C.hown C.hK hp.1 k0 (by rw [zW_at g _ (zkd_lt hk (by decide)), zCell_k hk]; rfl) rfl 0 (by decide) (C.ht _ wd_200) (fun _ h9 => h9) rfl d (k H locs ls hl hp hs)
theorem gf_RX9_354 {c : Code} (C : zCx p l s m args meth c g RX9 cc nL) (hk : zkd k0 = 12) (d : decode cc pc = .ok (.getfield 354, 3)) (k : WM p l e R s m args below meth c g nL cells slots Q (pc + 3) lv (.int (u k0 0) :: st) (u, W)) : WM p l e R s m args below meth c g nL cells slots Q pc lv (.ref (g.2.2.1 k0) :: st) (u, W) := fun H locs ls hl hp hs => va_get (D := g.1) (ci := 3) (C := RX3) (T := TX3) (N := 5) C.hx C.hb C.ht iX3 C.hown C.hK hp.1 k0 (by rw [zW_at g _ (zkd_lt hk (by decide)), zCell_k hk]; rfl) rfl 0 (by decide) (C.ht _ wd_215) (fun _ h9 => h9) rfl d (k H locs ls hl hp hs)
theorem gf_RX9_357 {c : Code} (C : zCx p l s m args meth c g RX9 cc nL) (hk : zkd k0 = 1) (d : decode cc pc = .ok (.getfield 357, 3)) (k : WM p l e R s m args below meth c g nL cells slots Q (pc + 3) lv (.int (u k0 14) :: st) (u, W)) : WM p l e R s m args below meth c g nL cells slots Q pc lv (.ref (g.2.2.1 k0) :: st) (u, W) := fun H locs ls hl hp hs => va_get (D := g.1) (ci := 9) (C := RX9) (T := TX9) (N := 16) C.hx C.hb C.ht iX9 C.hown C.hK hp.1 k0 (by rw [zW_at g _ (zkd_lt hk (by decide)), zCell_k hk]; rfl) rfl 14 (by decide) (C.ht _ wd_267) (fun _ h9 => h9) rfl d (k H locs ls hl hp hs)
theorem gf_RX9_365 {c : Code} (C : zCx p l s m args meth c g RX9 cc nL) (hk : zkd k0 = 13) (d : decode cc pc = .ok (.getfield 365, 3)) (k : WM p l e R s m args below meth c g nL cells slots Q (pc + 3) lv (.int (u k0 0) :: st) (u, W)) : WM p l e R s m args below meth c g nL cells slots Q pc lv (.ref (g.2.2.1 k0) :: st) (u, W) := fun H locs ls hl hp hs => va_get (D := g.1) (ci := 4) (C := RX4) (T := TX4) (N := 4) C.hx C.hb C.ht iX4 C.hown C.hK hp.1 k0 (by rw [zW_at g _ (zkd_lt hk (by decide)), zCell_k hk]; rfl) rfl 0 (by decide) (C.ht _ wd_240) (fun _ h9 => h9) rfl d (k H locs ls hl hp hs)
theorem gf_RX9_370 {c : Code} (C : zCx p l s m args meth c g RX9 cc nL) (hk : zkd k0 = 13) (d : decode cc pc = .ok (.getfield 370, 3)) (k : WM p l e R s m args below meth c g nL cells slots Q (pc + 3) lv (.int (u k0 1) :: st) (u, W)) : WM p l e R s m args below meth c g nL cells slots Q pc lv (.ref (g.2.2.1 k0) :: st) (u, W) := fun H locs ls hl hp hs => va_get (D := g.1) (ci := 4) (C := RX4) (T := TX4) (N := 4) C.hx C.hb C.ht iX4 C.hown C.hK hp.1 k0 (by rw [zW_at g _ (zkd_lt hk (by decide)), zCell_k hk]; rfl) rfl 1 (by decide) (C.ht _ wd_241) (fun _ h9 => h9) rfl d (k H locs ls hl hp hs)
theorem gf_RX9_373 {c : Code} (C : zCx p l s m args meth c g RX9 cc nL) (hk : zkd k0 = 13) (d : decode cc pc = .ok (.getfield 373, 3)) (k : WM p l e R s m args below meth c g nL cells slots Q (pc + 3) lv (.int (u k0 2) :: st) (u, W)) : WM p l e R s m args below meth c g nL cells slots Q pc lv (.ref (g.2.2.1 k0) :: st) (u, W) := fun H locs ls hl hp hs => va_get (D := g.1) (ci := 4) (C := RX4) (T := TX4) (N := 4) C.hx C.hb C.ht iX4 C.hown C.hK hp.1 k0 (by rw [zW_at g _ (zkd_lt hk (by decide)), zCell_k hk]; rfl) rfl 2 (by decide) (C.ht _ wd_242) (fun _ h9 => h9) rfl d (k H locs ls hl hp hs)
theorem gf_RX9_376 {c : Code} (C : zCx p l s m args meth c g RX9 cc nL) (hk : zkd k0 = 13) (d : decode cc pc = .ok (.getfield 376, 3)) (k : WM p l e R s m args below meth c g nL cells slots Q (pc + 3) lv (.int (u k0 3) :: st) (u, W)) : WM p l e R s m args below meth c g nL cells slots Q pc lv (.ref (g.2.2.1 k0) :: st) (u, W) := fun H locs ls hl hp hs => va_get (D := g.1) (ci := 4) (C := RX4) (T := TX4) (N := 4) C.hx C.hb C.ht iX4 C.hown C.hK hp.1 k0 (by rw [zW_at g _ (zkd_lt hk (by decide)), zCell_k hk]; rfl) rfl 3 (by decide) (C.ht _ wd_243) (fun _ h9 => h9) rfl d (k H locs ls hl hp hs)
theorem gf_RX9_377 {c : Code} (C : zCx p l s m args meth c g RX9 cc nL) (hk : zkd k0 = 4) (he : k0 + 2 = k1) (d : decode cc pc = .ok (.getfield 377, 3)) (k : WM p l e R s m args below meth c g nL cells slots Q (pc + 3) lv (.ref (g.2.2.1 k1) :: st) M) : WM p l e R s m args below meth c g nL cells slots Q pc lv (.ref (g.2.2.1 k0) :: st) M := by
  subst he
  exact fun H locs ls hl hp hs => va_get (D := g.1) (ci := 2) (C := RX2) (T := TX2) (N := 4) C.hx C.hb C.ht iX2 C.hown C.hK hp.1 k0 (by rw [zW_at g _ (zkd_lt hk (by decide)), zCell_k hk]; rfl) rfl 3 (by decide) (C.ht _ wd_105) (fun _ h9 => h9) rfl d (k H locs ls hl hp hs)
theorem gf_RX9_380 {c : Code} (C : zCx p l s m args meth c g RX9 cc nL) (hk : zkd k0 = 4) (he : k0 + 1 = k1) (d : decode cc pc = .ok (.getfield 380, 3)) (k : WM p l e R s m args below meth c g nL cells slots Q (pc + 3) lv (.ref (g.2.2.1 k1) :: st) M) : WM p l e R s m args below meth c g nL cells slots Q pc lv (.ref (g.2.2.1 k0) :: st) M := by
  subst he
  exact fun H locs ls hl hp hs => va_get (D := g.1) (ci := 2) (C := RX2) (T := TX2) (N := 4) C.hx C.hb C.ht iX2 C.hown C.hK hp.1 k0 (by rw [zW_at g _ (zkd_lt hk (by decide)), zCell_k hk]; rfl) rfl 2 (by decide) (C.ht _ wd_103) (fun _ h9 => h9) rfl d (k H locs ls hl hp hs)
theorem gf_RX9_39 {c : Code} (C : zCx p l s m args meth c g RX9 cc nL) (hk : zkd k0 = 1) (he : 95 = k1) (d : decode cc pc = .ok (.getfield 39, 3)) (k : WM p l e R s m args below meth c g nL cells slots Q (pc + 3) lv (.ref (g.2.2.1 k1) :: st) M) : WM p l e R s m args below meth c g nL cells slots Q pc lv (.ref (g.2.2.1 k0) :: st) M := by
  subst he
  exact fun H locs ls hl hp hs => va_get (D := g.1) (ci := 9) (C := RX9) (T := TX9) (N := 16) C.hx C.hb C.ht iX9 C.hown C.hK hp.1 k0 (by rw [zW_at g _ (zkd_lt hk (by decide)), zCell_k hk]; rfl) rfl 6 (by decide) (C.ht _ wd_259) (fun _ h9 => h9) rfl d (k H locs ls hl hp hs)
theorem gf_RX9_397 {c : Code} (C : zCx p l s m args meth c g RX9 cc nL) (hk : zkd k0 = 1) (d : decode cc pc = .ok (.getfield 397, 3)) (k : WM p l e R s m args below meth c g nL cells slots Q (pc + 3) lv (.int (u k0 3) :: st) (u, W)) : WM p l e R s m args below meth c g nL cells slots Q pc lv (.ref (g.2.2.1 k0) :: st) (u, W) := fun H locs ls hl hp hs => va_get (D := g.1) (ci := 9) (C := RX9) (T := TX9) (N := 16) C.hx C.hb C.ht iX9 C.hown C.hK hp.1 k0 (by rw [zW_at g _ (zkd_lt hk (by decide)), zCell_k hk]; rfl) rfl 3 (by decide) (C.ht _ wd_256) (fun _ h9 => h9) rfl d (k H locs ls hl hp hs)
theorem gf_RX9_428 {c : Code} (C : zCx p l s m args meth c g RX9 cc nL) (hk : zkd k0 = 12) (he : k0 + 2 = k1) (d : decode cc pc = .ok (.getfield 428, 3)) (k : WM p l e R s m args below meth c g nL cells slots Q (pc + 3) lv (.ref (g.2.2.1 k1) :: st) M) : WM p l e R s m args below meth c g nL cells slots Q pc lv (.ref (g.2.2.1 k0) :: st) M := by
  subst he
  exact fun H locs ls hl hp hs => va_get (D := g.1) (ci := 3) (C := RX3) (T := TX3) (N := 5) C.hx C.hb C.ht iX3 C.hown C.hK hp.1 k0 (by rw [zW_at g _ (zkd_lt hk (by decide)), zCell_k hk]; rfl) rfl 2 (by decide) (C.ht _ wd_219) (fun _ h9 => h9) rfl d (k H locs ls hl hp hs)
theorem gf_RX9_429 {c : Code} (C : zCx p l s m args meth c g RX9 cc nL) (hk : zkd k0 = 12) (he : k0 + 3 = k1) (d : decode cc pc = .ok (.getfield 429, 3)) (k : WM p l e R s m args below meth c g nL cells slots Q (pc + 3) lv (.ref (g.2.2.1 k1) :: st) M) : WM p l e R s m args below meth c g nL cells slots Q pc lv (.ref (g.2.2.1 k0) :: st) M := by
  subst he
  exact fun H locs ls hl hp hs => va_get (D := g.1) (ci := 3) (C := RX3) (T := TX3) (N := 5) C.hx C.hb C.ht iX3 C.hown C.hK hp.1 k0 (by rw [zW_at g _ (zkd_lt hk (by decide)), zCell_k hk]; rfl) rfl 3 (by decide) (C.ht _ wd_221) (fun _ h9 => h9) rfl d (k H locs ls hl hp hs)
theorem gf_RX9_43 {c : Code} (C : zCx p l s m args meth c g RX9 cc nL) (hk : zkd k0 = 1) (he : 100 = k1) (d : decode cc pc = .ok (.getfield 43, 3)) (k : WM p l e R s m args below meth c g nL cells slots Q (pc + 3) lv (.ref (g.2.2.1 k1) :: st) M) : WM p l e R s m args below meth c g nL cells slots Q pc lv (.ref (g.2.2.1 k0) :: st) M := by
  subst he
  exact fun H locs ls hl hp hs => va_get (D := g.1) (ci := 9) (C := RX9) (T := TX9) (N := 16) C.hx C.hb C.ht iX9 C.hown C.hK hp.1 k0 (by rw [zW_at g _ (zkd_lt hk (by decide)), zCell_k hk]; rfl) rfl 7 (by decide) (C.ht _ wd_260) (fun _ h9 => h9) rfl d (k H locs ls hl hp hs)
theorem gf_RX9_430 {c : Code} (C : zCx p l s m args meth c g RX9 cc nL) (hk : zkd k0 = 12) (he : k0 + 1 = k1) (d : decode cc pc = .ok (.getfield 430, 3)) (k : WM p l e R s m args below meth c g nL cells slots Q (pc + 3) lv (.ref (g.2.2.1 k1) :: st) M) : WM p l e R s m args below meth c g nL cells slots Q pc lv (.ref (g.2.2.1 k0) :: st) M := by
  subst he
  exact fun H locs ls hl hp hs => va_get (D := g.1) (ci := 3) (C := RX3) (T := TX3) (N := 5) C.hx C.hb C.ht iX3 C.hown C.hK hp.1 k0 (by rw [zW_at g _ (zkd_lt hk (by decide)), zCell_k hk]; rfl) rfl 1 (by decide) (C.ht _ wd_217) (fun _ h9 => h9) rfl d (k H locs ls hl hp hs)
theorem gf_RX9_441 {c : Code} (C : zCx p l s m args meth c g RX9 cc nL) (hk : zkd k0 = 1) (d : decode cc pc = .ok (.getfield 441, 3)) (k : WM p l e R s m args below meth c g nL cells slots Q (pc + 3) lv (.int (u k0 15) :: st) (u, W)) : WM p l e R s m args below meth c g nL cells slots Q pc lv (.ref (g.2.2.1 k0) :: st) (u, W) := fun H locs ls hl hp hs => va_get (D := g.1) (ci := 9) (C := RX9) (T := TX9) (N := 16) C.hx C.hb C.ht iX9 C.hown C.hK hp.1 k0 (by rw [zW_at g _ (zkd_lt hk (by decide)), zCell_k hk]; rfl) rfl 15 (by decide) (C.ht _ wd_268) (fun _ h9 => h9) rfl d (k H locs ls hl hp hs)
theorem gf_RX9_49 {c : Code} (C : zCx p l s m args meth c g RX9 cc nL) (hk : zkd k0 = 1) (he : 105 = k1) (d : decode cc pc = .ok (.getfield 49, 3)) (k : WM p l e R s m args below meth c g nL cells slots Q (pc + 3) lv (.ref (g.2.2.1 k1) :: st) M) : WM p l e R s m args below meth c g nL cells slots Q pc lv (.ref (g.2.2.1 k0) :: st) M := by
  subst he
  exact fun H locs ls hl hp hs => va_get (D := g.1) (ci := 9) (C := RX9) (T := TX9) (N := 16) C.hx C.hb C.ht iX9 C.hown C.hK hp.1 k0 (by rw [zW_at g _ (zkd_lt hk (by decide)), zCell_k hk]; rfl) rfl 8 (by decide) (C.ht _ wd_261) (fun _ h9 => h9) rfl d (k H locs ls hl hp hs)
theorem gf_RX9_56 {c : Code} (C : zCx p l s m args meth c g RX9 cc nL) (hk : zkd k0 = 1) (he : 108 = k1) (d : decode cc pc = .ok (.getfield 56, 3)) (k : WM p l e R s m args below meth c g nL cells slots Q (pc + 3) lv (.ref (g.2.2.1 k1) :: st) M) : WM p l e R s m args below meth c g nL cells slots Q pc lv (.ref (g.2.2.1 k0) :: st) M := by
  subst he
  exact fun H locs ls hl hp hs => va_get (D := g.1) (ci := 9) (C := RX9) (T := TX9) (N := 16) C.hx C.hb C.ht iX9 C.hown C.hK hp.1 k0 (by rw [zW_at g _ (zkd_lt hk (by decide)), zCell_k hk]; rfl) rfl 9 (by decide) (C.ht _ wd_262) (fun _ h9 => h9) rfl d (k H locs ls hl hp hs)
theorem gf_RX9_60 {c : Code} (C : zCx p l s m args meth c g RX9 cc nL) (hk : zkd k0 = 1) (he : 110 = k1) (d : decode cc pc = .ok (.getfield 60, 3)) (k : WM p l e R s m args below meth c g nL cells slots Q (pc + 3) lv (.ref (g.2.2.1 k1) :: st) M) : WM p l e R s m args below meth c g nL cells slots Q pc lv (.ref (g.2.2.1 k0) :: st) M := by
  subst he
  exact fun H locs ls hl hp hs => va_get (D := g.1) (ci := 9) (C := RX9) (T := TX9) (N := 16) C.hx C.hb C.ht iX9 C.hown C.hK hp.1 k0 (by rw [zW_at g _ (zkd_lt hk (by decide)), zCell_k hk]; rfl) rfl 10 (by decide) (C.ht _ wd_263) (fun _ h9 => h9) rfl d (k H locs ls hl hp hs)
theorem gf_RX9_66 {c : Code} (C : zCx p l s m args meth c g RX9 cc nL) (hk : zkd k0 = 1) (he : 112 = k1) (d : decode cc pc = .ok (.getfield 66, 3)) (k : WM p l e R s m args below meth c g nL cells slots Q (pc + 3) lv (.ref (g.2.2.1 k1) :: st) M) : WM p l e R s m args below meth c g nL cells slots Q pc lv (.ref (g.2.2.1 k0) :: st) M := by
  subst he
  exact fun H locs ls hl hp hs => va_get (D := g.1) (ci := 9) (C := RX9) (T := TX9) (N := 16) C.hx C.hb C.ht iX9 C.hown C.hK hp.1 k0 (by rw [zW_at g _ (zkd_lt hk (by decide)), zCell_k hk]; rfl) rfl 11 (by decide) (C.ht _ wd_264) (fun _ h9 => h9) rfl d (k H locs ls hl hp hs)
theorem gf_RX9_73 {c : Code} (C : zCx p l s m args meth c g RX9 cc nL) (hk : zkd k0 = 1) (he : 116 = k1) (d : decode cc pc = .ok (.getfield 73, 3)) (k : WM p l e R s m args below meth c g nL cells slots Q (pc + 3) lv (.ref (g.2.2.1 k1) :: st) M) : WM p l e R s m args below meth c g nL cells slots Q pc lv (.ref (g.2.2.1 k0) :: st) M := by
  subst he
  exact fun H locs ls hl hp hs => va_get (D := g.1) (ci := 9) (C := RX9) (T := TX9) (N := 16) C.hx C.hb C.ht iX9 C.hown C.hK hp.1 k0 (by rw [zW_at g _ (zkd_lt hk (by decide)), zCell_k hk]; rfl) rfl 12 (by decide) (C.ht _ wd_265) (fun _ h9 => h9) rfl d (k H locs ls hl hp hs)
theorem gf_RX9_77 {c : Code} (C : zCx p l s m args meth c g RX9 cc nL) (hk : zkd k0 = 1) (d : decode cc pc = .ok (.getfield 77, 3)) (k : WM p l e R s m args below meth c g nL cells slots Q (pc + 3) lv (.int (u k0 13) :: st) (u, W)) : WM p l e R s m args below meth c g nL cells slots Q pc lv (.ref (g.2.2.1 k0) :: st) (u, W) := fun H locs ls hl hp hs => va_get (D := g.1) (ci := 9) (C := RX9) (T := TX9) (N := 16) C.hx C.hb C.ht iX9 C.hown C.hK hp.1 k0 (by rw [zW_at g _ (zkd_lt hk (by decide)), zCell_k hk]; rfl) rfl 13 (by decide) (C.ht _ wd_266) (fun _ h9 => h9) rfl d (k H locs ls hl hp hs)
theorem pf_RX0_18 {c : Code} (C : zCx p l s m args meth c g RX0 cc nL) (hk : zkd k0 = 7) {x : Int32} (d : decode cc pc = .ok (.putfield 18, 3)) (k : ∀ z : MU, z = u2 u k0 2 x → WM p l e R s m args below meth c g nL cells slots Q (pc + 3) lv st (z, W)) : WM p l e R s m args below meth c g nL cells slots Q pc lv (.int x :: .ref (g.2.2.1 k0) :: st) (u, W) := by
  intro H locs ls hl hp hs
  refine va_put (D := g.1) (ci := 0) (ty := .int) (C := RX0) (T := TX0) (N := 3) C.hx C.hb C.ht iX0 tyX0 tyX0_ok nmX0 C.hown C.hK hp.1 (C.hdist.D _) hs k0 (by rw [zW_at g _ (zkd_lt hk (by decide)), zCell_k hk]; rfl) rfl 2 (by decide) (C.ht _ wd_140) (fun _ h9 => h9) rfl (by decide +kernel) rfl rfl (Nat.le_of_ble_eq_true rfl) d (fun H1 locs1 hP1 hD1 hS1 => ?_)
  refine k _ rfl H1 locs1 ls hl (zPic.kept hp ?_ (zOld C hs hS1)) hS1
  have e := zset_x (g := g) (M := (u, W)) (k := k0) (j := 2) (v := x) (zkd_lt hk (by decide))
  rw [zCell_k hk] at e
  refine Eq.mp ?_ hP1
  refine congrArg (fun z => va_P g.1 zCl z H1) ?_
  refine Eq.trans ?_ e
  refine congrArg (fun z => (zW g (u, W)).set k0 (g.2.2.1 k0, z)) ?_
  show _ = zRend g (u2 u k0 2 x, W) k0 7
  unfold zRend
  simp only [u2_same]
  rfl
theorem pf_RX0_30 {c : Code} (C : zCx p l s m args meth c g RX0 cc nL) (hk : zkd k0 = 7) {x : Int32} (d : decode cc pc = .ok (.putfield 30, 3)) (k : ∀ z : MU, z = u2 u k0 1 x → WM p l e R s m args below meth c g nL cells slots Q (pc + 3) lv st (z, W)) : WM p l e R s m args below meth c g nL cells slots Q pc lv (.int x :: .ref (g.2.2.1 k0) :: st) (u, W) := by
  intro H locs ls hl hp hs
  refine va_put (D := g.1) (ci := 0) (ty := .int) (C := RX0) (T := TX0) (N := 3) C.hx C.hb C.ht iX0 tyX0 tyX0_ok nmX0 C.hown C.hK hp.1 (C.hdist.D _) hs k0 (by rw [zW_at g _ (zkd_lt hk (by decide)), zCell_k hk]; rfl) rfl 1 (by decide) (C.ht _ wd_138) (fun _ h9 => h9) rfl (by decide +kernel) rfl rfl (Nat.le_of_ble_eq_true rfl) d (fun H1 locs1 hP1 hD1 hS1 => ?_)
  refine k _ rfl H1 locs1 ls hl (zPic.kept hp ?_ (zOld C hs hS1)) hS1
  have e := zset_x (g := g) (M := (u, W)) (k := k0) (j := 1) (v := x) (zkd_lt hk (by decide))
  rw [zCell_k hk] at e
  refine Eq.mp ?_ hP1
  refine congrArg (fun z => va_P g.1 zCl z H1) ?_
  refine Eq.trans ?_ e
  refine congrArg (fun z => (zW g (u, W)).set k0 (g.2.2.1 k0, z)) ?_
  show _ = zRend g (u2 u k0 1 x, W) k0 7
  unfold zRend
  simp only [u2_same]
  rfl
theorem pf_RX1_25 {c : Code} (C : zCx p l s m args meth c g RX1 cc nL) (hk : zkd k0 = 3) {x : Int32} (d : decode cc pc = .ok (.putfield 25, 3)) (k : ∀ z : MU, z = u2 u k0 0 x → WM p l e R s m args below meth c g nL cells slots Q (pc + 3) lv st (z, W)) : WM p l e R s m args below meth c g nL cells slots Q pc lv (.int x :: .ref (g.2.2.1 k0) :: st) (u, W) := by
  intro H locs ls hl hp hs
  refine va_put (D := g.1) (ci := 1) (ty := .int) (C := RX1) (T := TX1) (N := 8) C.hx C.hb C.ht iX1 tyX1 tyX1_ok nmX1 C.hown C.hK hp.1 (C.hdist.D _) hs k0 (by rw [zW_at g _ (zkd_lt hk (by decide)), zCell_k hk]; rfl) rfl 0 (by decide) (C.ht _ wd_56) (fun _ h9 => h9) rfl (by decide +kernel) rfl rfl (Nat.le_of_ble_eq_true rfl) d (fun H1 locs1 hP1 hD1 hS1 => ?_)
  refine k _ rfl H1 locs1 ls hl (zPic.kept hp ?_ (zOld C hs hS1)) hS1
  have e := zset_x (g := g) (M := (u, W)) (k := k0) (j := 0) (v := x) (zkd_lt hk (by decide))
  rw [zCell_k hk] at e
  refine Eq.mp ?_ hP1
  refine congrArg (fun z => va_P g.1 zCl z H1) ?_
  refine Eq.trans ?_ e
  refine congrArg (fun z => (zW g (u, W)).set k0 (g.2.2.1 k0, z)) ?_
  show _ = zRend g (u2 u k0 0 x, W) k0 3
  unfold zRend
  simp only [u2_same]
  rfl
theorem pf_RX1_28 {c : Code} (C : zCx p l s m args meth c g RX1 cc nL) (hk : zkd k0 = 3) {x : Int32} (d : decode cc pc = .ok (.putfield 28, 3)) (k : ∀ z : MU, z = u2 u k0 1 x → WM p l e R s m args below meth c g nL cells slots Q (pc + 3) lv st (z, W)) : WM p l e R s m args below meth c g nL cells slots Q pc lv (.int x :: .ref (g.2.2.1 k0) :: st) (u, W) := by
  intro H locs ls hl hp hs
  refine va_put (D := g.1) (ci := 1) (ty := .int) (C := RX1) (T := TX1) (N := 8) C.hx C.hb C.ht iX1 tyX1 tyX1_ok nmX1 C.hown C.hK hp.1 (C.hdist.D _) hs k0 (by rw [zW_at g _ (zkd_lt hk (by decide)), zCell_k hk]; rfl) rfl 1 (by decide) (C.ht _ wd_58) (fun _ h9 => h9) rfl (by decide +kernel) rfl rfl (Nat.le_of_ble_eq_true rfl) d (fun H1 locs1 hP1 hD1 hS1 => ?_)
  refine k _ rfl H1 locs1 ls hl (zPic.kept hp ?_ (zOld C hs hS1)) hS1
  have e := zset_x (g := g) (M := (u, W)) (k := k0) (j := 1) (v := x) (zkd_lt hk (by decide))
  rw [zCell_k hk] at e
  refine Eq.mp ?_ hP1
  refine congrArg (fun z => va_P g.1 zCl z H1) ?_
  refine Eq.trans ?_ e
  refine congrArg (fun z => (zW g (u, W)).set k0 (g.2.2.1 k0, z)) ?_
  show _ = zRend g (u2 u k0 1 x, W) k0 3
  unfold zRend
  simp only [u2_same]
  rfl
theorem pf_RX1_31 {c : Code} (C : zCx p l s m args meth c g RX1 cc nL) (hk : zkd k0 = 3) {x : Int32} (d : decode cc pc = .ok (.putfield 31, 3)) (k : ∀ z : MU, z = u2 u k0 2 x → WM p l e R s m args below meth c g nL cells slots Q (pc + 3) lv st (z, W)) : WM p l e R s m args below meth c g nL cells slots Q pc lv (.int x :: .ref (g.2.2.1 k0) :: st) (u, W) := by
  intro H locs ls hl hp hs
  refine va_put (D := g.1) (ci := 1) (ty := .int) (C := RX1) (T := TX1) (N := 8) C.hx C.hb C.ht iX1 tyX1 tyX1_ok nmX1 C.hown C.hK hp.1 (C.hdist.D _) hs k0 (by rw [zW_at g _ (zkd_lt hk (by decide)), zCell_k hk]; rfl) rfl 2 (by decide) (C.ht _ wd_60) (fun _ h9 => h9) rfl (by decide +kernel) rfl rfl (Nat.le_of_ble_eq_true rfl) d (fun H1 locs1 hP1 hD1 hS1 => ?_)
  refine k _ rfl H1 locs1 ls hl (zPic.kept hp ?_ (zOld C hs hS1)) hS1
  have e := zset_x (g := g) (M := (u, W)) (k := k0) (j := 2) (v := x) (zkd_lt hk (by decide))
  rw [zCell_k hk] at e
  refine Eq.mp ?_ hP1
  refine congrArg (fun z => va_P g.1 zCl z H1) ?_
  refine Eq.trans ?_ e
  refine congrArg (fun z => (zW g (u, W)).set k0 (g.2.2.1 k0, z)) ?_
  show _ = zRend g (u2 u k0 2 x, W) k0 3
  unfold zRend
  simp only [u2_same]
  rfl
theorem pf_RX1_34 {c : Code} (C : zCx p l s m args meth c g RX1 cc nL) (hk : zkd k0 = 3) {x : Int32} (d : decode cc pc = .ok (.putfield 34, 3)) (k : ∀ z : MU, z = u2 u k0 4 x → WM p l e R s m args below meth c g nL cells slots Q (pc + 3) lv st (z, W)) : WM p l e R s m args below meth c g nL cells slots Q pc lv (.int x :: .ref (g.2.2.1 k0) :: st) (u, W) := by
  intro H locs ls hl hp hs
  refine va_put (D := g.1) (ci := 1) (ty := .int) (C := RX1) (T := TX1) (N := 8) C.hx C.hb C.ht iX1 tyX1 tyX1_ok nmX1 C.hown C.hK hp.1 (C.hdist.D _) hs k0 (by rw [zW_at g _ (zkd_lt hk (by decide)), zCell_k hk]; rfl) rfl 4 (by decide) (C.ht _ wd_66) (fun _ h9 => h9) rfl (by decide +kernel) rfl rfl (Nat.le_of_ble_eq_true rfl) d (fun H1 locs1 hP1 hD1 hS1 => ?_)
  refine k _ rfl H1 locs1 ls hl (zPic.kept hp ?_ (zOld C hs hS1)) hS1
  have e := zset_x (g := g) (M := (u, W)) (k := k0) (j := 4) (v := x) (zkd_lt hk (by decide))
  rw [zCell_k hk] at e
  refine Eq.mp ?_ hP1
  refine congrArg (fun z => va_P g.1 zCl z H1) ?_
  refine Eq.trans ?_ e
  refine congrArg (fun z => (zW g (u, W)).set k0 (g.2.2.1 k0, z)) ?_
  show _ = zRend g (u2 u k0 4 x, W) k0 3
  unfold zRend
  simp only [u2_same]
  rfl
theorem pf_RX1_9 {c : Code} (C : zCx p l s m args meth c g RX1 cc nL) (hk : zkd k0 = 3) {x : Int32} (d : decode cc pc = .ok (.putfield 9, 3)) (k : ∀ z : MU, z = u2 u k0 3 x → WM p l e R s m args below meth c g nL cells slots Q (pc + 3) lv st (z, W)) : WM p l e R s m args below meth c g nL cells slots Q pc lv (.int x :: .ref (g.2.2.1 k0) :: st) (u, W) := by
  intro H locs ls hl hp hs
  refine va_put (D := g.1) (ci := 1) (ty := .int) (C := RX1) (T := TX1) (N := 8) C.hx C.hb C.ht iX1 tyX1 tyX1_ok nmX1 C.hown C.hK hp.1 (C.hdist.D _) hs k0 (by rw [zW_at g _ (zkd_lt hk (by decide)), zCell_k hk]; rfl) rfl 3 (by decide) (C.ht _ wd_62) (fun _ h9 => h9) rfl (by decide +kernel) rfl rfl (Nat.le_of_ble_eq_true rfl) d (fun H1 locs1 hP1 hD1 hS1 => ?_)
  refine k _ rfl H1 locs1 ls hl (zPic.kept hp ?_ (zOld C hs hS1)) hS1
  have e := zset_x (g := g) (M := (u, W)) (k := k0) (j := 3) (v := x) (zkd_lt hk (by decide))
  rw [zCell_k hk] at e
  refine Eq.mp ?_ hP1
  refine congrArg (fun z => va_P g.1 zCl z H1) ?_
  refine Eq.trans ?_ e
  refine congrArg (fun z => (zW g (u, W)).set k0 (g.2.2.1 k0, z)) ?_
  show _ = zRend g (u2 u k0 3 x, W) k0 3
  unfold zRend
  simp only [u2_same]
  rfl
theorem pf_RX2_18 {c : Code} (C : zCx p l s m args meth c g RX2 cc nL) (hk : zkd k0 = 4) {x : Int32} (hn : narrow .boolean (.int x) = .int x) (hfit : fits .boolean (.int x) = true) (d : decode cc pc = .ok (.putfield 18, 3)) (k : ∀ z : MU, z = u2 u k0 0 x → WM p l e R s m args below meth c g nL cells slots Q (pc + 3) lv st (z, W)) : WM p l e R s m args below meth c g nL cells slots Q pc lv (.int x :: .ref (g.2.2.1 k0) :: st) (u, W) := by
  intro H locs ls hl hp hs
  refine va_put (D := g.1) (ci := 2) (ty := .boolean) (C := RX2) (T := TX2) (N := 4) C.hx C.hb C.ht iX2 tyX2 tyX2_ok nmX2 C.hown C.hK hp.1 (C.hdist.D _) hs k0 (by rw [zW_at g _ (zkd_lt hk (by decide)), zCell_k hk]; rfl) rfl 0 (by decide) (C.ht _ wd_98) (fun _ h9 => h9) rfl (by decide +kernel) hn hfit (Nat.le_of_ble_eq_true rfl) d (fun H1 locs1 hP1 hD1 hS1 => ?_)
  refine k _ rfl H1 locs1 ls hl (zPic.kept hp ?_ (zOld C hs hS1)) hS1
  have e := zset_x (g := g) (M := (u, W)) (k := k0) (j := 0) (v := x) (zkd_lt hk (by decide))
  rw [zCell_k hk] at e
  refine Eq.mp ?_ hP1
  refine congrArg (fun z => va_P g.1 zCl z H1) ?_
  refine Eq.trans ?_ e
  refine congrArg (fun z => (zW g (u, W)).set k0 (g.2.2.1 k0, z)) ?_
  show _ = zRend g (u2 u k0 0 x, W) k0 4
  unfold zRend
  simp only [u2_same]
  rfl
theorem pf_RX2_22 {c : Code} (C : zCx p l s m args meth c g RX2 cc nL) (hk : zkd k0 = 4) {x : Int32} (d : decode cc pc = .ok (.putfield 22, 3)) (k : ∀ z : MU, z = u2 u k0 1 x → WM p l e R s m args below meth c g nL cells slots Q (pc + 3) lv st (z, W)) : WM p l e R s m args below meth c g nL cells slots Q pc lv (.int x :: .ref (g.2.2.1 k0) :: st) (u, W) := by
  intro H locs ls hl hp hs
  refine va_put (D := g.1) (ci := 2) (ty := .int) (C := RX2) (T := TX2) (N := 4) C.hx C.hb C.ht iX2 tyX2 tyX2_ok nmX2 C.hown C.hK hp.1 (C.hdist.D _) hs k0 (by rw [zW_at g _ (zkd_lt hk (by decide)), zCell_k hk]; rfl) rfl 1 (by decide) (C.ht _ wd_100) (fun _ h9 => h9) rfl (by decide +kernel) rfl rfl (Nat.le_of_ble_eq_true rfl) d (fun H1 locs1 hP1 hD1 hS1 => ?_)
  refine k _ rfl H1 locs1 ls hl (zPic.kept hp ?_ (zOld C hs hS1)) hS1
  have e := zset_x (g := g) (M := (u, W)) (k := k0) (j := 1) (v := x) (zkd_lt hk (by decide))
  rw [zCell_k hk] at e
  refine Eq.mp ?_ hP1
  refine congrArg (fun z => va_P g.1 zCl z H1) ?_
  refine Eq.trans ?_ e
  refine congrArg (fun z => (zW g (u, W)).set k0 (g.2.2.1 k0, z)) ?_
  show _ = zRend g (u2 u k0 1 x, W) k0 4
  unfold zRend
  simp only [u2_same]
  rfl
theorem pf_RX3_21 {c : Code} (C : zCx p l s m args meth c g RX3 cc nL) (hk : zkd k0 = 12) {x : Int32} (d : decode cc pc = .ok (.putfield 21, 3)) (k : ∀ z : MU, z = u2 u k0 4 x → WM p l e R s m args below meth c g nL cells slots Q (pc + 3) lv st (z, W)) : WM p l e R s m args below meth c g nL cells slots Q pc lv (.int x :: .ref (g.2.2.1 k0) :: st) (u, W) := by
  intro H locs ls hl hp hs
  refine va_put (D := g.1) (ci := 3) (ty := .int) (C := RX3) (T := TX3) (N := 5) C.hx C.hb C.ht iX3 tyX3 tyX3_ok nmX3 C.hown C.hK hp.1 (C.hdist.D _) hs k0 (by rw [zW_at g _ (zkd_lt hk (by decide)), zCell_k hk]; rfl) rfl 4 (by decide) (C.ht _ wd_222) (fun _ h9 => h9) rfl (by decide +kernel) rfl rfl (Nat.le_of_ble_eq_true rfl) d (fun H1 locs1 hP1 hD1 hS1 => ?_)
  refine k _ rfl H1 locs1 ls hl (zPic.kept hp ?_ (zOld C hs hS1)) hS1
  have e := zset_x (g := g) (M := (u, W)) (k := k0) (j := 4) (v := x) (zkd_lt hk (by decide))
  rw [zCell_k hk] at e
  refine Eq.mp ?_ hP1
  refine congrArg (fun z => va_P g.1 zCl z H1) ?_
  refine Eq.trans ?_ e
  refine congrArg (fun z => (zW g (u, W)).set k0 (g.2.2.1 k0, z)) ?_
  show _ = zRend g (u2 u k0 4 x, W) k0 12
  unfold zRend
  simp only [u2_same]
  rfl
theorem pf_RX3_25 {c : Code} (C : zCx p l s m args meth c g RX3 cc nL) (hk : zkd k0 = 12) {x : Int32} (d : decode cc pc = .ok (.putfield 25, 3)) (k : ∀ z : MU, z = u2 u k0 0 x → WM p l e R s m args below meth c g nL cells slots Q (pc + 3) lv st (z, W)) : WM p l e R s m args below meth c g nL cells slots Q pc lv (.int x :: .ref (g.2.2.1 k0) :: st) (u, W) := by
  intro H locs ls hl hp hs
  refine va_put (D := g.1) (ci := 3) (ty := .int) (C := RX3) (T := TX3) (N := 5) C.hx C.hb C.ht iX3 tyX3 tyX3_ok nmX3 C.hown C.hK hp.1 (C.hdist.D _) hs k0 (by rw [zW_at g _ (zkd_lt hk (by decide)), zCell_k hk]; rfl) rfl 0 (by decide) (C.ht _ wd_214) (fun _ h9 => h9) rfl (by decide +kernel) rfl rfl (Nat.le_of_ble_eq_true rfl) d (fun H1 locs1 hP1 hD1 hS1 => ?_)
  refine k _ rfl H1 locs1 ls hl (zPic.kept hp ?_ (zOld C hs hS1)) hS1
  have e := zset_x (g := g) (M := (u, W)) (k := k0) (j := 0) (v := x) (zkd_lt hk (by decide))
  rw [zCell_k hk] at e
  refine Eq.mp ?_ hP1
  refine congrArg (fun z => va_P g.1 zCl z H1) ?_
  refine Eq.trans ?_ e
  refine congrArg (fun z => (zW g (u, W)).set k0 (g.2.2.1 k0, z)) ?_
  show _ = zRend g (u2 u k0 0 x, W) k0 12
  unfold zRend
  simp only [u2_same]
  rfl
theorem pf_RX5_9 {c : Code} (C : zCx p l s m args meth c g RX5 cc nL) (hk : zkd k0 = 10) {x : Int32} (d : decode cc pc = .ok (.putfield 9, 3)) (k : ∀ z : MU, z = u2 u k0 0 x → WM p l e R s m args below meth c g nL cells slots Q (pc + 3) lv st (z, W)) : WM p l e R s m args below meth c g nL cells slots Q pc lv (.int x :: .ref (g.2.2.1 k0) :: st) (u, W) := by
  intro H locs ls hl hp hs
  refine va_put (D := g.1) (ci := 5) (ty := .int) (C := RX5) (T := TX5) (N := 3) C.hx C.hb C.ht iX5 tyX5 tyX5_ok nmX5 C.hown C.hK hp.1 (C.hdist.D _) hs k0 (by rw [zW_at g _ (zkd_lt hk (by decide)), zCell_k hk]; rfl) rfl 0 (by decide) (C.ht _ wd_182) (fun _ h9 => h9) rfl (by decide +kernel) rfl rfl (Nat.le_of_ble_eq_true rfl) d (fun H1 locs1 hP1 hD1 hS1 => ?_)
  refine k _ rfl H1 locs1 ls hl (zPic.kept hp ?_ (zOld C hs hS1)) hS1
  have e := zset_x (g := g) (M := (u, W)) (k := k0) (j := 0) (v := x) (zkd_lt hk (by decide))
  rw [zCell_k hk] at e
  refine Eq.mp ?_ hP1
  refine congrArg (fun z => va_P g.1 zCl z H1) ?_
  refine Eq.trans ?_ e
  refine congrArg (fun z => (zW g (u, W)).set k0 (g.2.2.1 k0, z)) ?_
  show _ = zRend g (u2 u k0 0 x, W) k0 10
  unfold zRend
  simp only [u2_same]
  rfl
theorem pf_RX6_30 {c : Code} (C : zCx p l s m args meth c g RX6 cc nL) (hk : zkd k0 = 2) {x : Int32} (d : decode cc pc = .ok (.putfield 30, 3)) (k : ∀ z : MU, z = u2 u k0 2 x → WM p l e R s m args below meth c g nL cells slots Q (pc + 3) lv st (z, W)) : WM p l e R s m args below meth c g nL cells slots Q pc lv (.int x :: .ref (g.2.2.1 k0) :: st) (u, W) := by
  intro H locs ls hl hp hs
  refine va_put (D := g.1) (ci := 6) (ty := .int) (C := RX6) (T := TX6) (N := 3) C.hx C.hb C.ht iX6 tyX6 tyX6_ok nmX6 C.hown C.hK hp.1 (C.hdist.D _) hs k0 (by rw [zW_at g _ (zkd_lt hk (by decide)), zCell_k hk]; rfl) rfl 2 (by decide) (C.ht _ wd_119) (fun _ h9 => h9) rfl (by decide +kernel) rfl rfl (Nat.le_of_ble_eq_true rfl) d (fun H1 locs1 hP1 hD1 hS1 => ?_)
  refine k _ rfl H1 locs1 ls hl (zPic.kept hp ?_ (zOld C hs hS1)) hS1
  have e := zset_x (g := g) (M := (u, W)) (k := k0) (j := 2) (v := x) (zkd_lt hk (by decide))
  rw [zCell_k hk] at e
  refine Eq.mp ?_ hP1
  refine congrArg (fun z => va_P g.1 zCl z H1) ?_
  refine Eq.trans ?_ e
  refine congrArg (fun z => (zW g (u, W)).set k0 (g.2.2.1 k0, z)) ?_
  show _ = zRend g (u2 u k0 2 x, W) k0 2
  unfold zRend
  simp only [u2_same]
  rfl
theorem pf_RX7_37 {c : Code} (C : zCx p l s m args meth c g RX7 cc nL) (hk : zkd k0 = 9) {x : Int32} (d : decode cc pc = .ok (.putfield 37, 3)) (k : ∀ z : MU, z = u2 u k0 0 x → WM p l e R s m args below meth c g nL cells slots Q (pc + 3) lv st (z, W)) : WM p l e R s m args below meth c g nL cells slots Q pc lv (.int x :: .ref (g.2.2.1 k0) :: st) (u, W) := by
  intro H locs ls hl hp hs
  refine va_put (D := g.1) (ci := 7) (ty := .int) (C := RX7) (T := TX7) (N := 6) C.hx C.hb C.ht iX7 tyX7 tyX7_ok nmX7 C.hown C.hK hp.1 (C.hdist.D _) hs k0 (by rw [zW_at g _ (zkd_lt hk (by decide)), zCell_k hk]; rfl) rfl 0 (by decide) (C.ht _ wd_156) (fun _ h9 => h9) rfl (by decide +kernel) rfl rfl (Nat.le_of_ble_eq_true rfl) d (fun H1 locs1 hP1 hD1 hS1 => ?_)
  refine k _ rfl H1 locs1 ls hl (zPic.kept hp ?_ (zOld C hs hS1)) hS1
  have e := zset_x (g := g) (M := (u, W)) (k := k0) (j := 0) (v := x) (zkd_lt hk (by decide))
  rw [zCell_k hk] at e
  refine Eq.mp ?_ hP1
  refine congrArg (fun z => va_P g.1 zCl z H1) ?_
  refine Eq.trans ?_ e
  refine congrArg (fun z => (zW g (u, W)).set k0 (g.2.2.1 k0, z)) ?_
  show _ = zRend g (u2 u k0 0 x, W) k0 9
  unfold zRend
  simp only [u2_same]
  rfl
theorem pf_RX7_9 {c : Code} (C : zCx p l s m args meth c g RX7 cc nL) (hk : zkd k0 = 9) {x : Int32} (d : decode cc pc = .ok (.putfield 9, 3)) (k : ∀ z : MU, z = u2 u k0 1 x → WM p l e R s m args below meth c g nL cells slots Q (pc + 3) lv st (z, W)) : WM p l e R s m args below meth c g nL cells slots Q pc lv (.int x :: .ref (g.2.2.1 k0) :: st) (u, W) := by
  intro H locs ls hl hp hs
  refine va_put (D := g.1) (ci := 7) (ty := .int) (C := RX7) (T := TX7) (N := 6) C.hx C.hb C.ht iX7 tyX7 tyX7_ok nmX7 C.hown C.hK hp.1 (C.hdist.D _) hs k0 (by rw [zW_at g _ (zkd_lt hk (by decide)), zCell_k hk]; rfl) rfl 1 (by decide) (C.ht _ wd_158) (fun _ h9 => h9) rfl (by decide +kernel) rfl rfl (Nat.le_of_ble_eq_true rfl) d (fun H1 locs1 hP1 hD1 hS1 => ?_)
  refine k _ rfl H1 locs1 ls hl (zPic.kept hp ?_ (zOld C hs hS1)) hS1
  have e := zset_x (g := g) (M := (u, W)) (k := k0) (j := 1) (v := x) (zkd_lt hk (by decide))
  rw [zCell_k hk] at e
  refine Eq.mp ?_ hP1
  refine congrArg (fun z => va_P g.1 zCl z H1) ?_
  refine Eq.trans ?_ e
  refine congrArg (fun z => (zW g (u, W)).set k0 (g.2.2.1 k0, z)) ?_
  show _ = zRend g (u2 u k0 1 x, W) k0 9
  unfold zRend
  simp only [u2_same]
  rfl
theorem pf_RX8_15 {c : Code} (C : zCx p l s m args meth c g RX8 cc nL) (hk : zkd k0 = 11) {x : Int32} (d : decode cc pc = .ok (.putfield 15, 3)) (k : ∀ z : MU, z = u2 u k0 0 x → WM p l e R s m args below meth c g nL cells slots Q (pc + 3) lv st (z, W)) : WM p l e R s m args below meth c g nL cells slots Q pc lv (.int x :: .ref (g.2.2.1 k0) :: st) (u, W) := by
  intro H locs ls hl hp hs
  refine va_put (D := g.1) (ci := 8) (ty := .int) (C := RX8) (T := TX8) (N := 2) C.hx C.hb C.ht iX8 tyX8 tyX8_ok nmX8 C.hown C.hK hp.1 (C.hdist.D _) hs k0 (by rw [zW_at g _ (zkd_lt hk (by decide)), zCell_k hk]; rfl) rfl 0 (by decide) (C.ht _ wd_198) (fun _ h9 => h9) rfl (by decide +kernel) rfl rfl (Nat.le_of_ble_eq_true rfl) d (fun H1 locs1 hP1 hD1 hS1 => ?_)
  refine k _ rfl H1 locs1 ls hl (zPic.kept hp ?_ (zOld C hs hS1)) hS1
  have e := zset_x (g := g) (M := (u, W)) (k := k0) (j := 0) (v := x) (zkd_lt hk (by decide))
  rw [zCell_k hk] at e
  refine Eq.mp ?_ hP1
  refine congrArg (fun z => va_P g.1 zCl z H1) ?_
  refine Eq.trans ?_ e
  refine congrArg (fun z => (zW g (u, W)).set k0 (g.2.2.1 k0, z)) ?_
  show _ = zRend g (u2 u k0 0 x, W) k0 11
  unfold zRend
  simp only [u2_same]
  rfl
theorem pf_RX9_122 {c : Code} (C : zCx p l s m args meth c g RX9 cc nL) (hk : zkd k0 = 4) {x : Int32} (hn : narrow .boolean (.int x) = .int x) (hfit : fits .boolean (.int x) = true) (d : decode cc pc = .ok (.putfield 122, 3)) (k : ∀ z : MU, z = u2 u k0 0 x → WM p l e R s m args below meth c g nL cells slots Q (pc + 3) lv st (z, W)) : WM p l e R s m args below meth c g nL cells slots Q pc lv (.int x :: .ref (g.2.2.1 k0) :: st) (u, W) := by
  intro H locs ls hl hp hs
  refine va_put (D := g.1) (ci := 2) (ty := .boolean) (C := RX2) (T := TX2) (N := 4) C.hx C.hb C.ht iX2 tyX2 tyX2_ok nmX2 C.hown C.hK hp.1 (C.hdist.D _) hs k0 (by rw [zW_at g _ (zkd_lt hk (by decide)), zCell_k hk]; rfl) rfl 0 (by decide) (C.ht _ wd_99) (fun _ h9 => h9) rfl (by decide +kernel) hn hfit (Nat.le_of_ble_eq_true rfl) d (fun H1 locs1 hP1 hD1 hS1 => ?_)
  refine k _ rfl H1 locs1 ls hl (zPic.kept hp ?_ (zOld C hs hS1)) hS1
  have e := zset_x (g := g) (M := (u, W)) (k := k0) (j := 0) (v := x) (zkd_lt hk (by decide))
  rw [zCell_k hk] at e
  refine Eq.mp ?_ hP1
  refine congrArg (fun z => va_P g.1 zCl z H1) ?_
  refine Eq.trans ?_ e
  refine congrArg (fun z => (zW g (u, W)).set k0 (g.2.2.1 k0, z)) ?_
  show _ = zRend g (u2 u k0 0 x, W) k0 4
  unfold zRend
  simp only [u2_same]
  rfl
theorem pf_RX9_262 {c : Code} (C : zCx p l s m args meth c g RX9 cc nL) (hk : zkd k0 = 3) {x : Int32} (d : decode cc pc = .ok (.putfield 262, 3)) (k : ∀ z : MU, z = u2 u k0 4 x → WM p l e R s m args below meth c g nL cells slots Q (pc + 3) lv st (z, W)) : WM p l e R s m args below meth c g nL cells slots Q pc lv (.int x :: .ref (g.2.2.1 k0) :: st) (u, W) := by
  intro H locs ls hl hp hs
  refine va_put (D := g.1) (ci := 1) (ty := .int) (C := RX1) (T := TX1) (N := 8) C.hx C.hb C.ht iX1 tyX1 tyX1_ok nmX1 C.hown C.hK hp.1 (C.hdist.D _) hs k0 (by rw [zW_at g _ (zkd_lt hk (by decide)), zCell_k hk]; rfl) rfl 4 (by decide) (C.ht _ wd_67) (fun _ h9 => h9) rfl (by decide +kernel) rfl rfl (Nat.le_of_ble_eq_true rfl) d (fun H1 locs1 hP1 hD1 hS1 => ?_)
  refine k _ rfl H1 locs1 ls hl (zPic.kept hp ?_ (zOld C hs hS1)) hS1
  have e := zset_x (g := g) (M := (u, W)) (k := k0) (j := 4) (v := x) (zkd_lt hk (by decide))
  rw [zCell_k hk] at e
  refine Eq.mp ?_ hP1
  refine congrArg (fun z => va_P g.1 zCl z H1) ?_
  refine Eq.trans ?_ e
  refine congrArg (fun z => (zW g (u, W)).set k0 (g.2.2.1 k0, z)) ?_
  show _ = zRend g (u2 u k0 4 x, W) k0 3
  unfold zRend
  simp only [u2_same]
  rfl
theorem pf_RX9_265 {c : Code} (C : zCx p l s m args meth c g RX9 cc nL) (hk : zkd k0 = 3) {x : Int32} (d : decode cc pc = .ok (.putfield 265, 3)) (k : ∀ z : MU, z = u2 u k0 0 x → WM p l e R s m args below meth c g nL cells slots Q (pc + 3) lv st (z, W)) : WM p l e R s m args below meth c g nL cells slots Q pc lv (.int x :: .ref (g.2.2.1 k0) :: st) (u, W) := by
  intro H locs ls hl hp hs
  refine va_put (D := g.1) (ci := 1) (ty := .int) (C := RX1) (T := TX1) (N := 8) C.hx C.hb C.ht iX1 tyX1 tyX1_ok nmX1 C.hown C.hK hp.1 (C.hdist.D _) hs k0 (by rw [zW_at g _ (zkd_lt hk (by decide)), zCell_k hk]; rfl) rfl 0 (by decide) (C.ht _ wd_57) (fun _ h9 => h9) rfl (by decide +kernel) rfl rfl (Nat.le_of_ble_eq_true rfl) d (fun H1 locs1 hP1 hD1 hS1 => ?_)
  refine k _ rfl H1 locs1 ls hl (zPic.kept hp ?_ (zOld C hs hS1)) hS1
  have e := zset_x (g := g) (M := (u, W)) (k := k0) (j := 0) (v := x) (zkd_lt hk (by decide))
  rw [zCell_k hk] at e
  refine Eq.mp ?_ hP1
  refine congrArg (fun z => va_P g.1 zCl z H1) ?_
  refine Eq.trans ?_ e
  refine congrArg (fun z => (zW g (u, W)).set k0 (g.2.2.1 k0, z)) ?_
  show _ = zRend g (u2 u k0 0 x, W) k0 3
  unfold zRend
  simp only [u2_same]
  rfl
theorem pf_RX9_319 {c : Code} (C : zCx p l s m args meth c g RX9 cc nL) (hk : zkd k0 = 3) {x : Int32} (d : decode cc pc = .ok (.putfield 319, 3)) (k : ∀ z : MU, z = u2 u k0 2 x → WM p l e R s m args below meth c g nL cells slots Q (pc + 3) lv st (z, W)) : WM p l e R s m args below meth c g nL cells slots Q pc lv (.int x :: .ref (g.2.2.1 k0) :: st) (u, W) := by
  intro H locs ls hl hp hs
  refine va_put (D := g.1) (ci := 1) (ty := .int) (C := RX1) (T := TX1) (N := 8) C.hx C.hb C.ht iX1 tyX1 tyX1_ok nmX1 C.hown C.hK hp.1 (C.hdist.D _) hs k0 (by rw [zW_at g _ (zkd_lt hk (by decide)), zCell_k hk]; rfl) rfl 2 (by decide) (C.ht _ wd_61) (fun _ h9 => h9) rfl (by decide +kernel) rfl rfl (Nat.le_of_ble_eq_true rfl) d (fun H1 locs1 hP1 hD1 hS1 => ?_)
  refine k _ rfl H1 locs1 ls hl (zPic.kept hp ?_ (zOld C hs hS1)) hS1
  have e := zset_x (g := g) (M := (u, W)) (k := k0) (j := 2) (v := x) (zkd_lt hk (by decide))
  rw [zCell_k hk] at e
  refine Eq.mp ?_ hP1
  refine congrArg (fun z => va_P g.1 zCl z H1) ?_
  refine Eq.trans ?_ e
  refine congrArg (fun z => (zW g (u, W)).set k0 (g.2.2.1 k0, z)) ?_
  show _ = zRend g (u2 u k0 2 x, W) k0 3
  unfold zRend
  simp only [u2_same]
  rfl
theorem pf_RX9_322 {c : Code} (C : zCx p l s m args meth c g RX9 cc nL) (hk : zkd k0 = 3) {x : Int32} (d : decode cc pc = .ok (.putfield 322, 3)) (k : ∀ z : MU, z = u2 u k0 3 x → WM p l e R s m args below meth c g nL cells slots Q (pc + 3) lv st (z, W)) : WM p l e R s m args below meth c g nL cells slots Q pc lv (.int x :: .ref (g.2.2.1 k0) :: st) (u, W) := by
  intro H locs ls hl hp hs
  refine va_put (D := g.1) (ci := 1) (ty := .int) (C := RX1) (T := TX1) (N := 8) C.hx C.hb C.ht iX1 tyX1 tyX1_ok nmX1 C.hown C.hK hp.1 (C.hdist.D _) hs k0 (by rw [zW_at g _ (zkd_lt hk (by decide)), zCell_k hk]; rfl) rfl 3 (by decide) (C.ht _ wd_63) (fun _ h9 => h9) rfl (by decide +kernel) rfl rfl (Nat.le_of_ble_eq_true rfl) d (fun H1 locs1 hP1 hD1 hS1 => ?_)
  refine k _ rfl H1 locs1 ls hl (zPic.kept hp ?_ (zOld C hs hS1)) hS1
  have e := zset_x (g := g) (M := (u, W)) (k := k0) (j := 3) (v := x) (zkd_lt hk (by decide))
  rw [zCell_k hk] at e
  refine Eq.mp ?_ hP1
  refine congrArg (fun z => va_P g.1 zCl z H1) ?_
  refine Eq.trans ?_ e
  refine congrArg (fun z => (zW g (u, W)).set k0 (g.2.2.1 k0, z)) ?_
  show _ = zRend g (u2 u k0 3 x, W) k0 3
  unfold zRend
  simp only [u2_same]
  rfl
theorem pf_RX9_325 {c : Code} (C : zCx p l s m args meth c g RX9 cc nL) (hk : zkd k0 = 4) {x : Int32} (d : decode cc pc = .ok (.putfield 325, 3)) (k : ∀ z : MU, z = u2 u k0 1 x → WM p l e R s m args below meth c g nL cells slots Q (pc + 3) lv st (z, W)) : WM p l e R s m args below meth c g nL cells slots Q pc lv (.int x :: .ref (g.2.2.1 k0) :: st) (u, W) := by
  intro H locs ls hl hp hs
  refine va_put (D := g.1) (ci := 2) (ty := .int) (C := RX2) (T := TX2) (N := 4) C.hx C.hb C.ht iX2 tyX2 tyX2_ok nmX2 C.hown C.hK hp.1 (C.hdist.D _) hs k0 (by rw [zW_at g _ (zkd_lt hk (by decide)), zCell_k hk]; rfl) rfl 1 (by decide) (C.ht _ wd_101) (fun _ h9 => h9) rfl (by decide +kernel) rfl rfl (Nat.le_of_ble_eq_true rfl) d (fun H1 locs1 hP1 hD1 hS1 => ?_)
  refine k _ rfl H1 locs1 ls hl (zPic.kept hp ?_ (zOld C hs hS1)) hS1
  have e := zset_x (g := g) (M := (u, W)) (k := k0) (j := 1) (v := x) (zkd_lt hk (by decide))
  rw [zCell_k hk] at e
  refine Eq.mp ?_ hP1
  refine congrArg (fun z => va_P g.1 zCl z H1) ?_
  refine Eq.trans ?_ e
  refine congrArg (fun z => (zW g (u, W)).set k0 (g.2.2.1 k0, z)) ?_
  show _ = zRend g (u2 u k0 1 x, W) k0 4
  unfold zRend
  simp only [u2_same]
  rfl
theorem pf_RX9_328 {c : Code} (C : zCx p l s m args meth c g RX9 cc nL) (hk : zkd k0 = 2) {x : Int32} (d : decode cc pc = .ok (.putfield 328, 3)) (k : ∀ z : MU, z = u2 u k0 2 x → WM p l e R s m args below meth c g nL cells slots Q (pc + 3) lv st (z, W)) : WM p l e R s m args below meth c g nL cells slots Q pc lv (.int x :: .ref (g.2.2.1 k0) :: st) (u, W) := by
  intro H locs ls hl hp hs
  refine va_put (D := g.1) (ci := 6) (ty := .int) (C := RX6) (T := TX6) (N := 3) C.hx C.hb C.ht iX6 tyX6 tyX6_ok nmX6 C.hown C.hK hp.1 (C.hdist.D _) hs k0 (by rw [zW_at g _ (zkd_lt hk (by decide)), zCell_k hk]; rfl) rfl 2 (by decide) (C.ht _ wd_120) (fun _ h9 => h9) rfl (by decide +kernel) rfl rfl (Nat.le_of_ble_eq_true rfl) d (fun H1 locs1 hP1 hD1 hS1 => ?_)
  refine k _ rfl H1 locs1 ls hl (zPic.kept hp ?_ (zOld C hs hS1)) hS1
  have e := zset_x (g := g) (M := (u, W)) (k := k0) (j := 2) (v := x) (zkd_lt hk (by decide))
  rw [zCell_k hk] at e
  refine Eq.mp ?_ hP1
  refine congrArg (fun z => va_P g.1 zCl z H1) ?_
  refine Eq.trans ?_ e
  refine congrArg (fun z => (zW g (u, W)).set k0 (g.2.2.1 k0, z)) ?_
  show _ = zRend g (u2 u k0 2 x, W) k0 2
  unfold zRend
  simp only [u2_same]
  rfl
theorem pf_RX9_331 {c : Code} (C : zCx p l s m args meth c g RX9 cc nL) (hk : zkd k0 = 7) {x : Int32} (d : decode cc pc = .ok (.putfield 331, 3)) (k : ∀ z : MU, z = u2 u k0 1 x → WM p l e R s m args below meth c g nL cells slots Q (pc + 3) lv st (z, W)) : WM p l e R s m args below meth c g nL cells slots Q pc lv (.int x :: .ref (g.2.2.1 k0) :: st) (u, W) := by
  intro H locs ls hl hp hs
  refine va_put (D := g.1) (ci := 0) (ty := .int) (C := RX0) (T := TX0) (N := 3) C.hx C.hb C.ht iX0 tyX0 tyX0_ok nmX0 C.hown C.hK hp.1 (C.hdist.D _) hs k0 (by rw [zW_at g _ (zkd_lt hk (by decide)), zCell_k hk]; rfl) rfl 1 (by decide) (C.ht _ wd_139) (fun _ h9 => h9) rfl (by decide +kernel) rfl rfl (Nat.le_of_ble_eq_true rfl) d (fun H1 locs1 hP1 hD1 hS1 => ?_)
  refine k _ rfl H1 locs1 ls hl (zPic.kept hp ?_ (zOld C hs hS1)) hS1
  have e := zset_x (g := g) (M := (u, W)) (k := k0) (j := 1) (v := x) (zkd_lt hk (by decide))
  rw [zCell_k hk] at e
  refine Eq.mp ?_ hP1
  refine congrArg (fun z => va_P g.1 zCl z H1) ?_
  refine Eq.trans ?_ e
  refine congrArg (fun z => (zW g (u, W)).set k0 (g.2.2.1 k0, z)) ?_
  show _ = zRend g (u2 u k0 1 x, W) k0 7
  unfold zRend
  simp only [u2_same]
  rfl
theorem pf_RX9_333 {c : Code} (C : zCx p l s m args meth c g RX9 cc nL) (hk : zkd k0 = 11) {x : Int32} (d : decode cc pc = .ok (.putfield 333, 3)) (k : ∀ z : MU, z = u2 u k0 0 x → WM p l e R s m args below meth c g nL cells slots Q (pc + 3) lv st (z, W)) : WM p l e R s m args below meth c g nL cells slots Q pc lv (.int x :: .ref (g.2.2.1 k0) :: st) (u, W) := by
  intro H locs ls hl hp hs
  refine va_put (D := g.1) (ci := 8) (ty := .int) (C := RX8) (T := TX8) (N := 2) C.hx C.hb C.ht iX8 tyX8 tyX8_ok nmX8 C.hown C.hK hp.1 (C.hdist.D _) hs k0 (by rw [zW_at g _ (zkd_lt hk (by decide)), zCell_k hk]; rfl) rfl 0 (by decide) (C.ht _ wd_200) (fun _ h9 => h9) rfl (by decide +kernel) rfl rfl (Nat.le_of_ble_eq_true rfl) d (fun H1 locs1 hP1 hD1 hS1 => ?_)
  refine k _ rfl H1 locs1 ls hl (zPic.kept hp ?_ (zOld C hs hS1)) hS1
  have e := zset_x (g := g) (M := (u, W)) (k := k0) (j := 0) (v := x) (zkd_lt hk (by decide))
  rw [zCell_k hk] at e
  refine Eq.mp ?_ hP1
  refine congrArg (fun z => va_P g.1 zCl z H1) ?_
  refine Eq.trans ?_ e
  refine congrArg (fun z => (zW g (u, W)).set k0 (g.2.2.1 k0, z)) ?_
  show _ = zRend g (u2 u k0 0 x, W) k0 11
  unfold zRend
  simp only [u2_same]
  rfl
theorem pf_RX9_357 {c : Code} (C : zCx p l s m args meth c g RX9 cc nL) (hk : zkd k0 = 1) {x : Int32} (d : decode cc pc = .ok (.putfield 357, 3)) (k : ∀ z : MU, z = u2 u k0 14 x → WM p l e R s m args below meth c g nL cells slots Q (pc + 3) lv st (z, W)) : WM p l e R s m args below meth c g nL cells slots Q pc lv (.int x :: .ref (g.2.2.1 k0) :: st) (u, W) := by
  intro H locs ls hl hp hs
  refine va_put (D := g.1) (ci := 9) (ty := .int) (C := RX9) (T := TX9) (N := 16) C.hx C.hb C.ht iX9 tyX9 tyX9_ok nmX9 C.hown C.hK hp.1 (C.hdist.D _) hs k0 (by rw [zW_at g _ (zkd_lt hk (by decide)), zCell_k hk]; rfl) rfl 14 (by decide) (C.ht _ wd_267) (fun _ h9 => h9) rfl (by decide +kernel) rfl rfl (Nat.le_of_ble_eq_true rfl) d (fun H1 locs1 hP1 hD1 hS1 => ?_)
  refine k _ rfl H1 locs1 ls hl (zPic.kept hp ?_ (zOld C hs hS1)) hS1
  have e := zset_x (g := g) (M := (u, W)) (k := k0) (j := 14) (v := x) (zkd_lt hk (by decide))
  rw [zCell_k hk] at e
  refine Eq.mp ?_ hP1
  refine congrArg (fun z => va_P g.1 zCl z H1) ?_
  refine Eq.trans ?_ e
  refine congrArg (fun z => (zW g (u, W)).set k0 (g.2.2.1 k0, z)) ?_
  show _ = zRend g (u2 u k0 14 x, W) k0 1
  unfold zRend
  simp only [u2_same]
  rfl
theorem pf_RX9_365 {c : Code} (C : zCx p l s m args meth c g RX9 cc nL) (hk : zkd k0 = 13) {x : Int32} (hn : narrow .boolean (.int x) = .int x) (hfit : fits .boolean (.int x) = true) (d : decode cc pc = .ok (.putfield 365, 3)) (k : ∀ z : MU, z = u2 u k0 0 x → WM p l e R s m args below meth c g nL cells slots Q (pc + 3) lv st (z, W)) : WM p l e R s m args below meth c g nL cells slots Q pc lv (.int x :: .ref (g.2.2.1 k0) :: st) (u, W) := by
  intro H locs ls hl hp hs
  refine va_put (D := g.1) (ci := 4) (ty := .boolean) (C := RX4) (T := TX4) (N := 4) C.hx C.hb C.ht iX4 tyX4 tyX4_ok nmX4 C.hown C.hK hp.1 (C.hdist.D _) hs k0 (by rw [zW_at g _ (zkd_lt hk (by decide)), zCell_k hk]; rfl) rfl 0 (by decide) (C.ht _ wd_240) (fun _ h9 => h9) rfl (by decide +kernel) hn hfit (Nat.le_of_ble_eq_true rfl) d (fun H1 locs1 hP1 hD1 hS1 => ?_)
  refine k _ rfl H1 locs1 ls hl (zPic.kept hp ?_ (zOld C hs hS1)) hS1
  have e := zset_x (g := g) (M := (u, W)) (k := k0) (j := 0) (v := x) (zkd_lt hk (by decide))
  rw [zCell_k hk] at e
  refine Eq.mp ?_ hP1
  refine congrArg (fun z => va_P g.1 zCl z H1) ?_
  refine Eq.trans ?_ e
  refine congrArg (fun z => (zW g (u, W)).set k0 (g.2.2.1 k0, z)) ?_
  show _ = zRend g (u2 u k0 0 x, W) k0 13
  unfold zRend
  simp only [u2_same]
  rfl
theorem pf_RX9_370 {c : Code} (C : zCx p l s m args meth c g RX9 cc nL) (hk : zkd k0 = 13) {x : Int32} (d : decode cc pc = .ok (.putfield 370, 3)) (k : ∀ z : MU, z = u2 u k0 1 x → WM p l e R s m args below meth c g nL cells slots Q (pc + 3) lv st (z, W)) : WM p l e R s m args below meth c g nL cells slots Q pc lv (.int x :: .ref (g.2.2.1 k0) :: st) (u, W) := by
  intro H locs ls hl hp hs
  refine va_put (D := g.1) (ci := 4) (ty := .int) (C := RX4) (T := TX4) (N := 4) C.hx C.hb C.ht iX4 tyX4 tyX4_ok nmX4 C.hown C.hK hp.1 (C.hdist.D _) hs k0 (by rw [zW_at g _ (zkd_lt hk (by decide)), zCell_k hk]; rfl) rfl 1 (by decide) (C.ht _ wd_241) (fun _ h9 => h9) rfl (by decide +kernel) rfl rfl (Nat.le_of_ble_eq_true rfl) d (fun H1 locs1 hP1 hD1 hS1 => ?_)
  refine k _ rfl H1 locs1 ls hl (zPic.kept hp ?_ (zOld C hs hS1)) hS1
  have e := zset_x (g := g) (M := (u, W)) (k := k0) (j := 1) (v := x) (zkd_lt hk (by decide))
  rw [zCell_k hk] at e
  refine Eq.mp ?_ hP1
  refine congrArg (fun z => va_P g.1 zCl z H1) ?_
  refine Eq.trans ?_ e
  refine congrArg (fun z => (zW g (u, W)).set k0 (g.2.2.1 k0, z)) ?_
  show _ = zRend g (u2 u k0 1 x, W) k0 13
  unfold zRend
  simp only [u2_same]
  rfl
theorem pf_RX9_373 {c : Code} (C : zCx p l s m args meth c g RX9 cc nL) (hk : zkd k0 = 13) {x : Int32} (d : decode cc pc = .ok (.putfield 373, 3)) (k : ∀ z : MU, z = u2 u k0 2 x → WM p l e R s m args below meth c g nL cells slots Q (pc + 3) lv st (z, W)) : WM p l e R s m args below meth c g nL cells slots Q pc lv (.int x :: .ref (g.2.2.1 k0) :: st) (u, W) := by
  intro H locs ls hl hp hs
  refine va_put (D := g.1) (ci := 4) (ty := .int) (C := RX4) (T := TX4) (N := 4) C.hx C.hb C.ht iX4 tyX4 tyX4_ok nmX4 C.hown C.hK hp.1 (C.hdist.D _) hs k0 (by rw [zW_at g _ (zkd_lt hk (by decide)), zCell_k hk]; rfl) rfl 2 (by decide) (C.ht _ wd_242) (fun _ h9 => h9) rfl (by decide +kernel) rfl rfl (Nat.le_of_ble_eq_true rfl) d (fun H1 locs1 hP1 hD1 hS1 => ?_)
  refine k _ rfl H1 locs1 ls hl (zPic.kept hp ?_ (zOld C hs hS1)) hS1
  have e := zset_x (g := g) (M := (u, W)) (k := k0) (j := 2) (v := x) (zkd_lt hk (by decide))
  rw [zCell_k hk] at e
  refine Eq.mp ?_ hP1
  refine congrArg (fun z => va_P g.1 zCl z H1) ?_
  refine Eq.trans ?_ e
  refine congrArg (fun z => (zW g (u, W)).set k0 (g.2.2.1 k0, z)) ?_
  show _ = zRend g (u2 u k0 2 x, W) k0 13
  unfold zRend
  simp only [u2_same]
  rfl
theorem pf_RX9_376 {c : Code} (C : zCx p l s m args meth c g RX9 cc nL) (hk : zkd k0 = 13) {x : Int32} (d : decode cc pc = .ok (.putfield 376, 3)) (k : ∀ z : MU, z = u2 u k0 3 x → WM p l e R s m args below meth c g nL cells slots Q (pc + 3) lv st (z, W)) : WM p l e R s m args below meth c g nL cells slots Q pc lv (.int x :: .ref (g.2.2.1 k0) :: st) (u, W) := by
  intro H locs ls hl hp hs
  refine va_put (D := g.1) (ci := 4) (ty := .int) (C := RX4) (T := TX4) (N := 4) C.hx C.hb C.ht iX4 tyX4 tyX4_ok nmX4 C.hown C.hK hp.1 (C.hdist.D _) hs k0 (by rw [zW_at g _ (zkd_lt hk (by decide)), zCell_k hk]; rfl) rfl 3 (by decide) (C.ht _ wd_243) (fun _ h9 => h9) rfl (by decide +kernel) rfl rfl (Nat.le_of_ble_eq_true rfl) d (fun H1 locs1 hP1 hD1 hS1 => ?_)
  refine k _ rfl H1 locs1 ls hl (zPic.kept hp ?_ (zOld C hs hS1)) hS1
  have e := zset_x (g := g) (M := (u, W)) (k := k0) (j := 3) (v := x) (zkd_lt hk (by decide))
  rw [zCell_k hk] at e
  refine Eq.mp ?_ hP1
  refine congrArg (fun z => va_P g.1 zCl z H1) ?_
  refine Eq.trans ?_ e
  refine congrArg (fun z => (zW g (u, W)).set k0 (g.2.2.1 k0, z)) ?_
  show _ = zRend g (u2 u k0 3 x, W) k0 13
  unfold zRend
  simp only [u2_same]
  rfl
theorem pf_RX9_397 {c : Code} (C : zCx p l s m args meth c g RX9 cc nL) (hk : zkd k0 = 1) {x : Int32} (hn : narrow .boolean (.int x) = .int x) (hfit : fits .boolean (.int x) = true) (d : decode cc pc = .ok (.putfield 397, 3)) (k : ∀ z : MU, z = u2 u k0 3 x → WM p l e R s m args below meth c g nL cells slots Q (pc + 3) lv st (z, W)) : WM p l e R s m args below meth c g nL cells slots Q pc lv (.int x :: .ref (g.2.2.1 k0) :: st) (u, W) := by
  intro H locs ls hl hp hs
  refine va_put (D := g.1) (ci := 9) (ty := .boolean) (C := RX9) (T := TX9) (N := 16) C.hx C.hb C.ht iX9 tyX9 tyX9_ok nmX9 C.hown C.hK hp.1 (C.hdist.D _) hs k0 (by rw [zW_at g _ (zkd_lt hk (by decide)), zCell_k hk]; rfl) rfl 3 (by decide) (C.ht _ wd_256) (fun _ h9 => h9) rfl (by decide +kernel) hn hfit (Nat.le_of_ble_eq_true rfl) d (fun H1 locs1 hP1 hD1 hS1 => ?_)
  refine k _ rfl H1 locs1 ls hl (zPic.kept hp ?_ (zOld C hs hS1)) hS1
  have e := zset_x (g := g) (M := (u, W)) (k := k0) (j := 3) (v := x) (zkd_lt hk (by decide))
  rw [zCell_k hk] at e
  refine Eq.mp ?_ hP1
  refine congrArg (fun z => va_P g.1 zCl z H1) ?_
  refine Eq.trans ?_ e
  refine congrArg (fun z => (zW g (u, W)).set k0 (g.2.2.1 k0, z)) ?_
  show _ = zRend g (u2 u k0 3 x, W) k0 1
  unfold zRend
  simp only [u2_same]
  rfl
theorem pf_RX9_441 {c : Code} (C : zCx p l s m args meth c g RX9 cc nL) (hk : zkd k0 = 1) {x : Int32} (d : decode cc pc = .ok (.putfield 441, 3)) (k : ∀ z : MU, z = u2 u k0 15 x → WM p l e R s m args below meth c g nL cells slots Q (pc + 3) lv st (z, W)) : WM p l e R s m args below meth c g nL cells slots Q pc lv (.int x :: .ref (g.2.2.1 k0) :: st) (u, W) := by
  intro H locs ls hl hp hs
  refine va_put (D := g.1) (ci := 9) (ty := .int) (C := RX9) (T := TX9) (N := 16) C.hx C.hb C.ht iX9 tyX9 tyX9_ok nmX9 C.hown C.hK hp.1 (C.hdist.D _) hs k0 (by rw [zW_at g _ (zkd_lt hk (by decide)), zCell_k hk]; rfl) rfl 15 (by decide) (C.ht _ wd_268) (fun _ h9 => h9) rfl (by decide +kernel) rfl rfl (Nat.le_of_ble_eq_true rfl) d (fun H1 locs1 hP1 hD1 hS1 => ?_)
  refine k _ rfl H1 locs1 ls hl (zPic.kept hp ?_ (zOld C hs hS1)) hS1
  have e := zset_x (g := g) (M := (u, W)) (k := k0) (j := 15) (v := x) (zkd_lt hk (by decide))
  rw [zCell_k hk] at e
  refine Eq.mp ?_ hP1
  refine congrArg (fun z => va_P g.1 zCl z H1) ?_
  refine Eq.trans ?_ e
  refine congrArg (fun z => (zW g (u, W)).set k0 (g.2.2.1 k0, z)) ?_
  show _ = zRend g (u2 u k0 15 x, W) k0 1
  unfold zRend
  simp only [u2_same]
  rfl
theorem pf_RX9_77 {c : Code} (C : zCx p l s m args meth c g RX9 cc nL) (hk : zkd k0 = 1) {x : Int32} (d : decode cc pc = .ok (.putfield 77, 3)) (k : ∀ z : MU, z = u2 u k0 13 x → WM p l e R s m args below meth c g nL cells slots Q (pc + 3) lv st (z, W)) : WM p l e R s m args below meth c g nL cells slots Q pc lv (.int x :: .ref (g.2.2.1 k0) :: st) (u, W) := by
  intro H locs ls hl hp hs
  refine va_put (D := g.1) (ci := 9) (ty := .int) (C := RX9) (T := TX9) (N := 16) C.hx C.hb C.ht iX9 tyX9 tyX9_ok nmX9 C.hown C.hK hp.1 (C.hdist.D _) hs k0 (by rw [zW_at g _ (zkd_lt hk (by decide)), zCell_k hk]; rfl) rfl 13 (by decide) (C.ht _ wd_266) (fun _ h9 => h9) rfl (by decide +kernel) rfl rfl (Nat.le_of_ble_eq_true rfl) d (fun H1 locs1 hP1 hD1 hS1 => ?_)
  refine k _ rfl H1 locs1 ls hl (zPic.kept hp ?_ (zOld C hs hS1)) hS1
  have e := zset_x (g := g) (M := (u, W)) (k := k0) (j := 13) (v := x) (zkd_lt hk (by decide))
  rw [zCell_k hk] at e
  refine Eq.mp ?_ hP1
  refine congrArg (fun z => va_P g.1 zCl z H1) ?_
  refine Eq.trans ?_ e
  refine congrArg (fun z => (zW g (u, W)).set k0 (g.2.2.1 k0, z)) ?_
  show _ = zRend g (u2 u k0 13 x, W) k0 1
  unfold zRend
  simp only [u2_same]
  rfl
end ZF
