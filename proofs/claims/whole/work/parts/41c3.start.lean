set_option maxRecDepth 100000 in
set_option maxHeartbeats 1000000 in
theorem z_first (D : va_G) (ca : Nat → ClassId) (base : Nat) (g : GE) (a0 : Nat) (e0 : Nat → Nat) (a1 : Nat) (e1 : Nat → Nat) (a2 a3 : Nat) (hg : g.2.1 = ca) : zW (D, (ca, (zAd a0 e0 a1 e1 a2 a3, base))) (u0, v0, o0, d0) = (((([] ++ ZF9 g a0 e0) ++ ZF10 g a1 e1 ++ [(a2, .inl (g.2.1 2, 1, .inr (.inl (fun _ => 0))))]) ++ [(a3, .inl (g.2.1 3, 1, .inr (.inr (.inr (.inl (fun _ => 0))))))]) : va_W).set 26 (e0 25, zSt8 ca (zAd a0 e0 a1 e1 a2 a3)) := by
  subst hg
  rw [zW_zLit, zLit_B, zLit_A, zLit_C]
theorem arrV_ext8 {cI : ClassId} {f h : Nat → Value} (q : ∀ j : Nat, j < 8 → f j = h j) : arrV cI 8 f = arrV cI 8 h := by
  unfold arrV
  rw [show (fun j : Fin 8 => f j.val) = fun j => h j.val from funext fun j => q j.val j.2]
set_option maxRecDepth 100000 in
set_option maxHeartbeats 1000000 in
theorem z_row8 {D : va_G} {cl : List vw_C} {A : Nat → Prop} {H : Heap} {g : GE} {a0 : Nat} {e0 : Nat → Nat} {a1 : Nat} {e1 : Nat → Nat} {a2 a3 : Nat} {ws : va_W} (hws : ws = (([] ++ ZF9 g a0 e0) ++ ZF10 g a1 e1 ++ [(a2, .inl (g.2.1 2, 1, .inr (.inl (fun _ => 0))))]) ++ [(a3, .inl (g.2.1 3, 1, .inr (.inr (.inr (.inl (fun _ => 0))))))]) (hP : va_P D cl ws H) (hD : va_D A ws) : va_P D cl (ws.set 26 (e0 25, zSt8 g.2.1 (zAd a0 e0 a1 e1 a2 a3))) H ∧ va_D A (ws.set 26 (e0 25, zSt8 g.2.1 (zAd a0 e0 a1 e1 a2 a3))) := by
  have he : ws[26]? = some (e0 25, .inl (g.2.1 4, 8, .inr (.inr (.inr (.inr (va_up (va_up (va_up (va_up (va_up (va_up (va_up (va_up (fun _ => none) 0 (some (e0 26))) 1 (some (e0 34))) 2 (some (e0 42))) 3 (some (e0 50))) 4 (some (e0 58))) 5 (some (e0 66))) 6 (some (e0 74))) 7 (some (e0 82)))))))) := by
    rw [hws, zLit_A]
    rfl
  refine ⟨hP.set hD he ?_ (fun _ _ => rfl), hD.set he⟩
  have h1 := hP 26 _ he
  show H[e0 25]? = some (vp_cell _ _)
  refine Eq.trans h1 (congrArg some ?_)
  rw [vp_cell_q, vp_cell_q]
  refine arrV_ext8 (fun j hj => ?_)
  rcases (show j = 0 ∨ j = 1 ∨ j = 2 ∨ j = 3 ∨ j = 4 ∨ j = 5 ∨ j = 6 ∨ j = 7 by omega) with h | h | h | h | h | h | h | h <;> subst h <;> rfl
