/-! the list of positions is ascending -/
theorem lpS_up {c : Cfg} {f a : Nat} : ∀ n s, (lpS c f a n s).Pairwise (· < ·)
  | 0, _ => List.Pairwise.nil
  | n + 1, s => by
    have ih := lpS_up (c := c) (f := f) (a := a) n (s + 1)
    rw [lpS]
    split
    · refine List.Pairwise.cons (fun x hx => ?_) (List.Pairwise.cons (fun x hx => ?_) ih)
      · rcases List.mem_cons.mp hx with h | h
        · rw [h]; unfold pnum; omega
        · obtain ⟨i, t, h1, _, _, _, rfl⟩ := (lpS_mem n (s + 1)).mp h
          unfold pnum; omega
      · obtain ⟨i, t, h1, _, _, _, rfl⟩ := (lpS_mem n (s + 1)).mp hx
        unfold pnum; omega
    · exact ih
theorem lpA_up {c : Cfg} (hn : c.n ≤ 8) {f : Nat} : ∀ n a, (lpA c f n a).Pairwise (· < ·)
  | 0, _ => List.Pairwise.nil
  | n + 1, a => by
    rw [lpA]
    refine List.pairwise_append.mpr ⟨lpS_up _ _, lpA_up hn n (a + 1), fun x hx y hy => ?_⟩
    obtain ⟨i, t, _, h2, h3, _, rfl⟩ := (lpS_mem _ _).mp hx
    obtain ⟨j, i2, t2, h4, _, _, _, _, rfl⟩ := (lpA_mem _ _).mp hy
    unfold pnum; omega
theorem lpF_up {c : Cfg} (hn : c.n ≤ 8) : ∀ n f, (lpF c n f).Pairwise (· < ·)
  | 0, _ => List.Pairwise.nil
  | n + 1, f => by
    rw [lpF]
    refine List.pairwise_append.mpr ⟨lpA_up hn _ _, lpF_up hn n (f + 1), fun x hx y hy => ?_⟩
    obtain ⟨j, i, t, _, h2, h3, h4, _, rfl⟩ := (lpA_mem _ _).mp hx
    obtain ⟨g, j2, i2, t2, h5, _, _, _, _, _, rfl⟩ := (lpF_mem _ _).mp hy
    unfold pnum; omega
theorem lp_up {c : Cfg} (hc : CfgOk c) : (lp c).Pairwise (· < ·) := lpF_up hc.hn _ _
