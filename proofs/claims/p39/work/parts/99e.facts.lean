/-! REFUSED CALLS: what each answers -/
theorem f_n {S : St} (hok : StOk S) : hasI S.cfg (nI S.n) = false := by
  rw [hasI_nI hok.cfg (by have := hok.1; omega)]
  exact decide_eq_false (Nat.lt_irrefl _)
theorem f_m1 {S : St} : hasI S.cfg (-1) = false := by
  unfold hasI
  rw [decide_eq_true (by decide)]; rfl
theorem f_0 {S : St} (hok : StOk S) (hn : 3 ≤ S.n) : hasI S.cfg 0 = true := by
  rw [← nI_0, hasI_nI hok.cfg (by decide)]
  exact decide_eq_true (show 0 < S.n by omega)
theorem f_1 {S : St} (hok : StOk S) (hn : 3 ≤ S.n) : hasI S.cfg 1 = true := by
  rw [show (1 : Int32) = nI 1 from rfl, hasI_nI hok.cfg (by decide)]
  exact decide_eq_true (show 1 < S.n by omega)
theorem f_2 {S : St} (hok : StOk S) (hn : 3 ≤ S.n) : hasI S.cfg 2 = true := by
  rw [show (2 : Int32) = nI 2 from rfl, hasI_nI hok.cfg (by decide)]
  exact decide_eq_true (show 2 < S.n by omega)
theorem fT1 {S : St} (hok : StOk S) (hn : 3 ≤ S.n) : opTread S (nI S.n) 9 = .inl (3, nI S.n) := by unfold opTread; rw [if_pos (f_n hok)]
theorem fT2 {S : St} (hok : StOk S) (hn : 3 ≤ S.n) : opTread S 0 (-1) = .inl (3, -1) := by unfold opTread; rw [if_neg (by rw [f_0 hok hn]; decide), if_pos f_m1]
theorem fT3 {S : St} (hok : StOk S) (hn : 3 ≤ S.n) : opTread S 2 2 = .inl (4, 2) := by unfold opTread; rw [if_neg (by rw [f_2 hok hn]; decide), if_neg (by rw [f_2 hok hn]; decide), if_pos rfl]
theorem fT4 {S : St} (hok : StOk S) (hn : 3 ≤ S.n) (hp : ∃ j, pix 1 0 S.ps 0 = some j) : opTread S 1 0 = .inl (5, 0) := by
  obtain ⟨j, hj⟩ := hp
  unfold opTread
  rw [if_neg (by rw [f_1 hok hn]; decide), if_neg (by rw [f_0 hok hn]; decide), if_neg (by decide), show cl 1 = 1 by decide, show cl 0 = 0 by decide, hj]
theorem fG1 {S : St} : opGrow S (-1) 0 = .inl (3, -1) := by unfold opGrow; rw [if_pos f_m1]
theorem fG2 {S : St} (hok : StOk S) (hn : 3 ≤ S.n) : opGrow S 0 (nI S.n) = .inl (3, nI S.n) := by unfold opGrow; rw [if_neg (by rw [f_0 hok hn]; decide), if_pos (f_n hok)]
theorem fG3 {S : St} (hok : StOk S) (hn : 3 ≤ S.n) : opGrow S 1 1 = .inl (6, 1) := by
  have h : pix 1 1 S.ps 0 = none := by
    refine (pix_none _ _).mpr ?_
    cases e : adjB S.ps 1 1 with
    | false => rfl
    | true => exact absurd rfl (adjB_in hok.2.2.2.1 e).2.2
  unfold opGrow
  rw [if_neg (by rw [f_1 hok hn]; decide), if_neg (by rw [f_1 hok hn]; decide), show cl 1 = 1 by decide, h]
theorem fR1 {S : St} (hok : StOk S) : opTrap S (nI S.n) true = .inl (3, nI S.n) := by unfold opTrap; rw [if_pos (f_n hok)]
theorem fR2 {S : St} (hok : StOk S) (hn : 3 ≤ S.n) {b : Bool} (hb : S.traps.testBit 0 = b) : opTrap S 0 b = .inl (5, 0) := by unfold opTrap; rw [if_neg (by rw [f_0 hok hn]; decide), show cl 0 = 0 by decide, if_pos hb]
theorem fF0 {S : St} : opFlock S 0 = .inl (1, 0) := by unfold opFlock; rw [if_pos (by decide)]
theorem fF3 {S : St} : opFlock S 3 = .inl (1, 0) := by unfold opFlock; rw [if_neg (by decide), if_pos (by decide)]
theorem fFg {S : St} (hok : StOk S) : opFlock S (nI S.geese) = .inl (5, 0) := by
  unfold opFlock
  rcases hok.2.1 with h | h
  · rw [h, if_neg (by decide), if_neg (by decide), if_pos rfl]
  · rw [h, if_neg (by decide), if_neg (by decide), if_pos rfl]
theorem p_0 {S : St} : posI S.cfg 0 = false := by
  rw [← nI_0, posI_nI (by decide)]
  cases e : posB S.cfg 0 with
  | false => rfl
  | true => exact absurd rfl (posB_spec.mp e).2.2.2.1
theorem p_big {S : St} {p : Nat} (h : 1296 ≤ p) (h2 : p < 2 ^ 31) : posI S.cfg (nI p) = false := by
  rw [posI_nI h2]
  cases e : posB S.cfg p with
  | false => rfl
  | true => exact absurd (posB_spec.mp e).1 (by omega)
theorem p_neg {S : St} {x : Int32} (h : x < 0) : posI S.cfg x = false := by
  unfold posI
  rw [decide_eq_true h]; rfl
theorem p_n {S : St} (hok : StOk S) : posI S.cfg ((162 : Int32) * nI S.n) = false := by
  have := hok.1
  rw [show (162 : Int32) = nI 162 from rfl, pk_mul, posI_nI (by omega)]
  cases e : posB S.cfg (162 * S.n) with
  | false => rfl
  | true =>
    have h : fx (162 * S.n) < S.n := (posB_spec.mp e).2.1
    unfold fx at h
    omega
theorem fB {S : St} {x : Int32} (h : posI S.cfg x = false) : opBegin S x = .inl (7, x) := by unfold opBegin; rw [if_pos h]
theorem fP {S : St} {x : Int32} (h : x < 1 ∨ 40 < x) : opPlay S x = .inl (1, 0) := by
  unfold opPlay
  by_cases z : x < 1
  · rw [if_pos z]
  · rw [if_neg z, if_pos (h.resolve_left z)]
theorem fM {S : St} (hg : S.game = none) {x y : Int32} : opMove S x y = .inl (8, 0) := by unfold opMove; rw [hg]
theorem fP1 {S : St} (hg : S.game = none) : opPlay S 1 = .inl (8, 0) := by unfold opPlay; rw [if_neg (by decide), if_neg (by decide), hg]
theorem fBk {S : St} (hg : S.game = none) : opBack S = .inl (8, 0) := by unfold opBack; rw [hg]
theorem v_now {S : St} (hg : S.game = none) : rv (a_now (A0 S)) = -1001 := by unfold a_now; rw [show (A0 S).S.game = none from hg]; rfl
theorem v_bur {S : St} (hok : StOk S) (hn : 3 ≤ S.n) : rv (a_burrowOf (A0 S) 0 2) = bI (S.traps.testBit 0) := by
  unfold a_burrowOf burVal
  rw [if_neg (by rw [show (A0 S).S.cfg = S.cfg from rfl, f_0 hok hn]; decide), if_neg (by decide), if_neg (by decide), if_neg (by decide), if_neg (by decide), if_pos rfl]
  rfl
theorem v_pos {S : St} {x y z : Int32} {b : Bool} (h : fitsI S.cfg x y z = false) : rv (a_position (A0 S) x y z b) = -1001 := by
  unfold a_position
  rw [if_neg (by rw [show (A0 S).S.cfg = S.cfg from rfl, h]; decide)]; rfl
theorem g_1 {S : St} (hok : StOk S) {y z : Int32} : fitsI S.cfg (nI S.n) y z = false := by unfold fitsI; rw [f_n hok]; rfl
theorem g_2 {S : St} {x z : Int32} : fitsI S.cfg x x z = false := by unfold fitsI; rw [decide_eq_true rfl]; cases hasI S.cfg x <;> rfl
theorem g_3 {S : St} (hok : StOk S) (h : ¬ nI S.geese = 1) : fitsI S.cfg 0 1 (-1) = false := by
  unfold fitsI
  rw [if_neg (fun e => h (by rw [show S.geese = 1 from e]; rfl)), f_m1]
  simp
theorem g_4 {S : St} (hok : StOk S) (h : nI S.geese = 1) : fitsI S.cfg 0 1 2 = false := by
  have e : S.cfg.geese = 1 := by
    rcases hok.2.1 with q | q
    · exact q
    · rw [q] at h; exact absurd h (by decide)
  unfold fitsI
  rw [if_pos e, decide_eq_false (show ¬ (2 : Int32) = -1 by decide)]
  simp
theorem v_po1 {S : St} {x y : Int32} (h : y < 0 ∨ 6 < y) : rv (a_positionOf (A0 S) x y) = -1001 := by
  unfold a_positionOf
  by_cases z : y < 0
  · rw [if_pos z]; rfl
  · rw [if_neg z, if_pos (h.resolve_left z)]; rfl
theorem v_po2 {S : St} {x : Int32} (h : posI S.cfg x = false) : rv (a_positionOf (A0 S) x 0) = -1002 := by
  unfold a_positionOf
  rw [if_neg (by decide), if_neg (by decide), if_pos (show posI (A0 S).S.cfg x = false from h)]; rfl
theorem v_oa {S : St} {x : Int32} (h : posI S.cfg x = false) : rv (a_outcomeAgain (A0 S) x) = -1001 := by unfold a_outcomeAgain; rw [if_pos (show posI (A0 S).S.cfg x = false from h)]; rfl
theorem v_mo {S : St} {x y : Int32} {b : Bool} (h : posI S.cfg x = false) : rv (a_moveOf (A0 S) x y b) = -1001 := by unfold a_moveOf; rw [if_pos (show posI (A0 S).S.cfg x = false from h)]; rfl
theorem v_be {S : St} {x : Int32} (h : posI S.cfg x = false) : rv (a_best (A0 S) x) = -1001 := by unfold a_best; rw [if_pos (show posI (A0 S).S.cfg x = false from h)]; rfl
theorem v_af {S : St} {x y z : Int32} (h : posI S.cfg x = false) : rv (a_after (A0 S) x y z) = -1001 := by unfold a_after; rw [if_pos (show posI (A0 S).S.cfg x = false from h)]; rfl
theorem v_en {S : St} {x : Int32} (h : posI S.cfg x = false) : rv (a_ends (A0 S) x) = -1001 := by unfold a_ends; rw [if_pos (show posI (A0 S).S.cfg x = false from h)]; rfl
theorem v_bb {S : St} {x : Int32} (h : posI S.cfg x = false) : rv (a_bestBurrow (A0 S) x) = -1001 := by unfold a_bestBurrow; rw [if_pos (show posI (A0 S).S.cfg x = false from h)]; rfl
theorem v_co {S : St} {x : Int32} {b : Bool} (h : x < 0 ∨ 2 < x) : rv (a_count (A0 S) x b) = -1001 := by
  unfold a_count
  by_cases z : x < 0
  · rw [if_pos z]; rfl
  · rw [if_neg z, if_pos (h.resolve_left z)]; rfl
theorem v_wi {S : St} {x : Int32} (h : x < 0) : rv (a_wonIn (A0 S) x) = -1001 := by unfold a_wonIn; rw [if_pos h]; rfl
theorem v_w1 {S : St} (hok : StOk S) {y : Int32} : rv (a_wouldChange (A0 S) (nI S.n) y) = -1001 := by unfold a_wouldChange; rw [if_pos (show hasI (A0 S).S.cfg (nI S.n) = false from f_n hok)]; rfl
theorem v_w2 {S : St} (hok : StOk S) (hn : 3 ≤ S.n) : rv (a_wouldChange (A0 S) 0 (-1)) = -1001 := by unfold a_wouldChange; rw [if_neg (by rw [show (A0 S).S.cfg = S.cfg from rfl, f_0 hok hn]; decide), if_pos (show hasI (A0 S).S.cfg (-1) = false from f_m1)]; rfl
theorem v_w3 {S : St} (hok : StOk S) (hn : 3 ≤ S.n) : rv (a_wouldChange (A0 S) 1 1) = -1002 := by unfold a_wouldChange; rw [if_neg (by rw [show (A0 S).S.cfg = S.cfg from rfl, f_1 hok hn]; decide), if_neg (by rw [show (A0 S).S.cfg = S.cfg from rfl, f_1 hok hn]; decide), if_pos rfl]; rfl
theorem v_b1 {S : St} (hok : StOk S) {y : Int32} : rv (a_burrowOf (A0 S) (nI S.n) y) = -1001 := by unfold a_burrowOf; rw [if_pos (show hasI (A0 S).S.cfg (nI S.n) = false from f_n hok)]; rfl
theorem v_b2 {S : St} (hok : StOk S) (hn : 3 ≤ S.n) {y : Int32} (h : y < 0 ∨ 3 < y) : rv (a_burrowOf (A0 S) 0 y) = -1002 := by
  unfold a_burrowOf
  rw [if_neg (by rw [show (A0 S).S.cfg = S.cfg from rfl, f_0 hok hn]; decide)]
  by_cases z : y < 0
  · rw [if_pos z]; rfl
  · rw [if_neg z, if_pos (h.resolve_left z)]; rfl
theorem v_pa {S : St} (hok : StOk S) {b : Bool} : rv (a_pathOf (A0 S) (nI S.ps.length) b) = -1001 := by
  have := hok.2.2.2.1.1
  unfold a_pathOf
  rw [if_neg (nI_pos (by omega)), show cl (nI S.ps.length) = S.ps.length from nI_clamp (by omega), show (A0 S).S.ps[S.ps.length]? = none from List.getElem?_eq_none (Nat.le_refl _)]
  rfl
theorem v_pa2 {S : St} {x : Int32} {b : Bool} (h : x < 0) : rv (a_pathOf (A0 S) x b) = -1001 := by unfold a_pathOf; rw [if_pos h]; rfl
theorem v_ac {S : St} {x : Int32} (h : x < 0 ∨ 10 < x) : rv (a_account (A0 S) x) = -1001 := by
  unfold a_account
  by_cases z : x < 0
  · rw [if_pos z]; rfl
  · rw [if_neg z, if_pos (h.resolve_left z)]; rfl

theorem zDg1 {v : Nat} (h : v < 10) : zDg v = 1 := by unfold zDg; rw [if_pos h]
theorem zNo2 (n : Nat) (f : Nat → Int32) : ∃ bs : List Int32, bs.length = n ∧ ∀ k, k < bs.length → f k = bs.getD k 0 := by
  refine ⟨(List.range n).map f, by simp, fun k hk => ?_⟩
  have hk' : k < n := by simpa using hk
  rw [List.getD_eq_getElem?_getD, List.getElem?_map, List.getElem?_range hk']
  rfl
def tQ : List Int32 := [113]
def tX : List Int32 := [120, 48, 45, 49, 59, 112, 48, 45, 49, 59, 98, 57, 57, 57, 57]
def tG (d : Nat) : List Int32 := [103, nI (48 + d), 59, 103, nI (48 + d)]
theorem pr_Q : (prs (tQ.map zChr) 31 0).2 = some 0 := by decide +kernel
theorem pr_X : prs (tX.map zChr) 31 0 = ([(120, (0, 1)), (112, (0, 1)), (98, (9999, 0))], none) := by decide +kernel
theorem pr_G1 : prs ((tG 1).map zChr) 31 0 = ([(103, (1, 0)), (103, (1, 0))], none) := by decide +kernel
theorem pr_G2 : prs ((tG 2).map zChr) 31 0 = ([(103, (2, 0)), (103, (2, 0))], none) := by decide +kernel
theorem runG {S : St} {d : Nat} (hok : StOk S) (hd : d + S.geese = 3) : runC S [(103, (d, 0)), (103, (d, 0))] 0 = .inl (5, (0, 1)) := by
  have hg := hok.2.1
  have e1 : opCmd S (103, (d, 0)) = .inr (S.geese, mkS S.n S.traps d S.ps none S.begun) := by
    rw [show opCmd S (103, (d, 0)) = opFlock S (nI d) from rfl]
    unfold opFlock
    rcases hg with h | h
    · have : d = 2 := by omega
      subst this
      rw [if_neg (by decide), if_neg (by decide), if_neg (by rw [h]; decide), show cl (nI 2) = 2 by decide]
    · have : d = 1 := by omega
      subst this
      rw [if_neg (by decide), if_neg (by decide), if_neg (by rw [h]; decide), show cl (nI 1) = 1 by decide]
  have e2 : opCmd (mkS S.n S.traps d S.ps none S.begun) (103, (d, 0)) = .inl (5, 0) := by
    rw [show opCmd (mkS S.n S.traps d S.ps none S.begun) (103, (d, 0)) = opFlock (mkS S.n S.traps d S.ps none S.begun) (nI d) from rfl]
    unfold opFlock
    have hd2 : d = 1 ∨ d = 2 := by omega
    rcases hd2 with h | h <;> subst h
    · rw [if_neg (by decide), if_neg (by decide), if_pos (show nI 1 = nI (mkS S.n S.traps 1 S.ps none S.begun).geese from rfl)]
    · rw [if_neg (by decide), if_neg (by decide), if_pos (show nI 2 = nI (mkS S.n S.traps 2 S.ps none S.begun).geese from rfl)]
  rw [runC, e1]
  show runC (mkS S.n S.traps d S.ps none S.begun) [(103, (d, 0))] 1 = _
  rw [runC, e2]
theorem smP_10 {q : Nat × Nat} : smP 1 0 q = smP 0 1 q := smP_comm 1 0 q
theorem runX {S : St} (hok : StOk S) (hn : 3 ≤ S.n) (hp : ∃ j, pix 1 0 S.ps 0 = some j) : runC S [(120, (0, 1)), (112, (0, 1)), (98, (9999, 0))] 0 = .inl (7, (9999, 2)) := by
  obtain ⟨hl, hin, hpw⟩ := hok.2.2.2.1
  have hadj : adjB S.ps 0 1 = true := by
    rw [adjB_comm]
    cases e : adjB S.ps 1 0 with
    | true => rfl
    | false =>
      obtain ⟨j, hj⟩ := hp
      rw [(pix_none S.ps 0).mpr e] at hj
      cases hj
  obtain ⟨i, hi⟩ : ∃ i, pix 0 1 S.ps 0 = some i := by
    cases e : pix 0 1 S.ps 0 with
    | some i => exact ⟨i, rfl⟩
    | none => rw [(pix_none S.ps 0).mp e] at hadj; cases hadj
  obtain ⟨m, q, hm, hq, hs⟩ := pix_some S.ps 0 i hi
  have hm' : i = m := by omega
  subst hm'
  have hlen : i < S.ps.length := (List.getElem?_eq_some_iff.mp hq).1
  have hadj2 : adjB (S.ps.eraseIdx i) 0 1 = false := by rw [adjB_erase S.ps i q hpw hq, hs]; simp
  have e1 : opCmd S (120, (0, 1)) = .inr (S.ps.length - 1, mkS S.n S.traps S.geese (S.ps.eraseIdx i) none S.begun) := by
    rw [show opCmd S (120, (0, 1)) = opGrow S (nI 0) (nI 1) from rfl]
    unfold opGrow
    rw [show nI 0 = 0 from nI_0, show nI 1 = 1 from rfl, if_neg (by rw [f_0 hok hn]; decide), if_neg (by rw [f_1 hok hn]; decide), show cl 0 = 0 by decide, show cl 1 = 1 by decide, hi]
  have hc2 : ∀ (x : Int32), hasI (mkS S.n S.traps S.geese (S.ps.eraseIdx i) none S.begun).cfg x = hasI S.cfg x := fun x => rfl
  have e2 : opCmd (mkS S.n S.traps S.geese (S.ps.eraseIdx i) none S.begun) (112, (0, 1)) = .inr ((S.ps.eraseIdx i).length, mkS S.n S.traps S.geese (S.ps.eraseIdx i ++ [(0, 1)]) none S.begun) := by
    rw [show opCmd (mkS S.n S.traps S.geese (S.ps.eraseIdx i) none S.begun) (112, (0, 1)) = opTread (mkS S.n S.traps S.geese (S.ps.eraseIdx i) none S.begun) (nI 0) (nI 1) from rfl]
    unfold opTread
    rw [show nI 0 = 0 from nI_0, show nI 1 = 1 from rfl, if_neg (by rw [hc2, f_0 hok hn]; decide), if_neg (by rw [hc2, f_1 hok hn]; decide), if_neg (by decide), show cl 0 = 0 by decide, show cl 1 = 1 by decide, show pix 0 1 (mkS S.n S.traps S.geese (S.ps.eraseIdx i) none S.begun).ps 0 = none from (pix_none _ _).mpr hadj2]
    have h16 : (mkS S.n S.traps S.geese (S.ps.eraseIdx i) none S.begun).ps.length < 16 := by
      show (S.ps.eraseIdx i).length < 16
      rw [List.length_eraseIdx, if_pos hlen]
      omega
    show (if (mkS S.n S.traps S.geese (S.ps.eraseIdx i) none S.begun).ps.length < 16 then _ else _) = _
    rw [if_pos h16]
    rfl
  have e3 : opCmd (mkS S.n S.traps S.geese (S.ps.eraseIdx i ++ [(0, 1)]) none S.begun) (98, (9999, 0)) = .inl (7, 9999) := by
    rw [show opCmd (mkS S.n S.traps S.geese (S.ps.eraseIdx i ++ [(0, 1)]) none S.begun) (98, (9999, 0)) = opBegin (mkS S.n S.traps S.geese (S.ps.eraseIdx i ++ [(0, 1)]) none S.begun) (nI 9999) from rfl]
    exact fB (p_big (by decide) (by decide))
  rw [runC, e1]
  show runC _ [(112, (0, 1)), (98, (9999, 0))] 1 = _
  rw [runC, e2]
  show runC _ [(98, (9999, 0))] 2 = _
  rw [runC, e3]
