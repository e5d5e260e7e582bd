/-! WHOLE_START OUT OF THE PURE STATEMENT (zPure: no machine in it) -/
def zPure : Prop := ∀ (L : Nat) (xs : Nat → Int32), L ≤ 260 → wb_R_lawe_8 xs L True u0 ∧ wb_R_lawa_466 xs L True u0
theorem zFlags {l : Launch} (h : l.flags = flags0) : l.stackTraces = false := by
  unfold Launch.stackTraces
  rw [h]
  decide +kernel
theorem zDr {b : Nat} {s : State} {w : Cond} (h : w.before #[Value.ref b] s = true) : w.before #[Value.ref b] (s.setDrawn s.drawn) = true :=
  dr_words (Ts := [w]) (fun w' h' => by rw [List.mem_singleton] at h'; rw [h']; exact h) s.drawn w (List.mem_singleton.mpr rfl)
theorem whole_start_of (hpure : zPure) {p : Program} {e : Env} {s : State} {m : MethodId} {below : List Frame} {meth : Method} {c : Code} (l : Launch) (hflags : l.flags = flags0) {b L : Nat} {xs : Nat → Int32} (hL : L ≤ 260) (C0 : lw_At p s m meth c b L xs) : W p l e room_1 s m #[Value.ref b] below meth c s.heap [] 0 0 (lw_Z below #[Value.ref b] s) (entryFrame m ([Value.ref b] : List Value).toArray 11) := by
  obtain ⟨hx, hb, hr, hml, hown, hts, hX, hbl, hlocks, hgv⟩ := C0
  obtain ⟨h1, h2⟩ := hpure L xs hL
  have hd0 := Drawn.sameBut.refl s.drawn lw_cs
  refine W.base ?_
  refine whole_run (s := s.setDrawn s.drawn) (zFlags hflags) hx hb hml hown (fun w hw => zDr (hts w hw)) hX hbl hlocks (zDr hgv) (fun H locs ls hq => ?_) h1 h2
  refine va_forget hq ?_
  exact lw_ret hd0 hx hb hr hlocks dL_law_716
