theorem zIn {s : State} {ws : va_W} {A : Nat → Prop} (h : ws = []) : va_D A ws := by subst h; exact ⟨fun i j p q h => by simp at h, fun k q h => by simp at h⟩
set_option maxRecDepth 100000 in
set_option maxHeartbeats 4000000 in
theorem whole_run {p : Program} {l : Launch} {e : Env} {s : State} {m : MethodId} {below : List Frame} {meth : Method} {c : Code} {b L : Nat} {xs : Nat → Int32} {Q : State → Prop} (hstk : l.stackTraces = false)
    (hx : p.tables.exec = Jvm.exec) (hb : c.code = code) (hml : c.maxLocals = 9) (hown : s.vm.findClass RL = some m.cls) (hts : ∀ w ∈ lw_tbl, w.before #[Value.ref b] s = true) (hX : va_X b L xs s s.heap) (hbl : b < s.heap.size) (hlocks : meth.locks = false) (hgv : (Jvm.Cond.and given_1 narrow_1).before #[Value.ref b] s = true)
    (hend : ∀ (H : Heap) (locs : List Loc) (ls : Array Slot), (∀ q ∈ locs, s.heap.size ≤ q.base) → W p l e room_1 s m #[Value.ref b] below meth c H locs 603072 7207018 Q (F0 m 2335 ls [.int 1])) (n : Nat) (hn : n ≤ 900) (hlaw : wl_law xs L n 0 u0 v0 o0 d0) : W p l e room_1 s m #[Value.ref b] below meth c s.heap [] 0 0 Q (entryFrame m ([Value.ref b] : List Value).toArray 9) := by
  obtain ⟨D, ca, hfix⟩ := z_fix hts hgv
  have hs := flat_of_before _ hgv
  have hTB : ∀ w ∈ TB, w.before #[Value.ref b] s = true := fun w h => hts w (List.mem_filter.mp h).1
  have hT1 : vx_Zq Bundle.tN "UNASSIGNED_STACK" Bundle.steD (fun q => s.heap.size ≤ q) s s.heap := vx_Zqof (args := #[Value.ref b]) (hts _ (by decide +kernel)) (hts _ (by decide +kernel)) (hs _ (by decide +kernel)) (fun a ha => Nat.not_le.mpr ha)
  have hT2 : vx_Zq Bundle.tN "SUPPRESSED_SENTINEL" Bundle.listD (fun q => s.heap.size ≤ q) s s.heap := vx_Zqof (args := #[Value.ref b]) (hts _ (by decide +kernel)) (hts _ (by decide +kernel)) (hs _ (by decide +kernel)) (fun a ha => Nat.not_le.mpr ha)
  rw [lg_entry_eq]
  have K : zCc p l s m #[Value.ref b] meth c (D, (ca, ((fun _ => 0), s.heap.size))) RL cL_law 9 := ⟨hx, hb, hml, hown, hTB, hlocks, hfix _ _, Nat.le_refl _, va_AO.of (hts _ zAO_ok)⟩
  refine whole_go K (fun a0 e0 a1 e1 a2 a3 => ?_) s.heap [] _ (lv_entry ([.ref b]) (n := 9) (Nat.le_of_ble_eq_true rfl)) (fun k q h => by simp at h) (zIn (s := s) rfl) va_S.rf
  intro H locs ls hl hP hD hS
  obtain ⟨hP, hD⟩ := z_row8 rfl (by rw [List.nil_append] at hP; exact hP) (by rw [List.nil_append] at hD; exact hD)
  rw [← z_first D ca s.heap.size (D, (ca, ((fun _ => 0), s.heap.size))) a0 e0 a1 e1 a2 a3 rfl] at hP hD
  generalize hG : (D, (ca, (zAd a0 e0 a1 e1 a2 a3, s.heap.size))) = g at hP hD
  have hgA : zA g = fun q => s.heap.size ≤ q := by rw [← hG]; rfl
  have hgB : g.2.2.2 = s.heap.size := by rw [← hG]
  have hDist : zDist g := ⟨fun i j hi hj he => hD.1 i j _ _ (zW_at g _ hi) (zW_at g _ hj) he, fun i hi => by have h := hD.2 i _ (zW_at g _ hi); rw [hgB]; exact h⟩
  have C : zCx p l s m #[Value.ref b] meth c g RL cL_law 9 := ⟨hx, hb, hml, hown, hTB, hlocks, by rw [← hG]; exact hfix _ _, hDist, by rw [← hG]; exact Nat.le_refl _⟩
  have hbA : ¬ zA g b := by rw [hgA]; exact Nat.not_le.mpr hbl
  have hS' : va_S (zA g) s.heap H locs := by rw [hgA]; exact hS
  have hpic : zPic g (u0, v0, o0, d0) s H := by
    refine ⟨by rw [← hG] at hP ⊢; exact hP, ?_, ?_⟩
    · rw [hgA]; exact vx_Zq.kept hT1 (fun a ha hA => hS.2.1 a ha hA)
    · rw [hgA]; exact vx_Zq.kept hT2 (fun a ha hA => hS.2.1 a ha hA)
  have hlv : lv_has ls 9 [(0, .ref b), (1, .ref (g.2.2.1 0)), (2, .ref (g.2.2.1 117)), (3, .ref (g.2.2.1 131)), (4, .ref (g.2.2.1 132)), (5, .int 0)] := by
    rw [← hG]
    exact ⟨hl.1, hl.2.1, fun q hq => hl.2.2 q (by simp only [List.mem_cons, List.not_mem_nil, or_false] at hq ⊢; rcases hq with h | h | h | h | h | h <;> subst h <;> simp [zAd])⟩
  have key := vl_law C hX hbl hbA hstk (Qz := Q) (e := e) (below := below) (fun x5 u v o dd H1 locs1 ls1 _ _ hS1 => hend H1 locs1 ls1 (fun q hq => by have h := hS1.2.2 q hq; rw [hgA] at h; exact h)) n hn 0 u0 v0 o0 d0 hlaw
  exact W.widen (by omega) (by omega) (key H locs ls hlv hpic hS')
