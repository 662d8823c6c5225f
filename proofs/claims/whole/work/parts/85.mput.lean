/-! THE MODEL: puts. -/
section MR
variable {m0 : xM} {v : Nat → Int32} {dx : Int64} {A : Nat → Nat → Int32} {LA : Nat → Nat → Int64} {s : Nat → Int32}
theorem x_M_puts {d r l c x : Nat} (h11 : v 11 = nI r) (hr : r < 6) (hl : A 53 r = nI l) (hl4 : l < 400) : Cl d j_M_puts [.ref 50, .int (nI c), .int (nI x)] (MM m0 v dx A LA) (Pv (MM m0 v dx (va_up (va_up A 52 (upd (A 52) (400 * r + l) (nI (c + 16 * x)))) 53 (upd (A 53) r (nI (l + 1)))) LA)) := by
  show Rn d j_M_puts 0 _ _ _ _
  refine Rn.step (pc' := 1) rfl rfl ?_
  refine Rn.getf (pc' := 4) rfl rfl rfl rfl rfl ?_
  refine Rn.iconst (v := 400) (pc' := 7) rfl (by decide) rfl ?_
  refine Rn.step (pc' := 8) rfl rfl ?_
  refine Rn.getf (pc' := 11) rfl rfl rfl rfl rfl ?_
  refine Rn.imul (pc' := 12) rfl rfl ?_
  refine Rn.step (pc' := 13) rfl rfl ?_
  refine Rn.getf (pc' := 16) rfl rfl rfl rfl rfl ?_
  refine Rn.step (pc' := 17) rfl rfl ?_
  refine Rn.getf (pc' := 20) rfl rfl rfl rfl rfl ?_
  refine Rn.mald (k := r) (pc' := 21) rfl rfl (h11) (by omega) (by decide) rfl ?_
  refine Rn.iadd (pc' := 22) rfl rfl ?_
  refine Rn.step (pc' := 23) rfl rfl ?_
  refine Rn.iconst (v := 16) (pc' := 25) rfl (by decide) rfl ?_
  refine Rn.step (pc' := 26) rfl rfl ?_
  refine Rn.imul (pc' := 27) rfl rfl ?_
  refine Rn.iadd (pc' := 28) rfl rfl ?_
  rw [show nI c + 16 * nI x = nI (c + 16 * x) by simp only [nI_lit, nI_add, pk_mul]]
  refine Rn.mast (k := 400 * r + l) (pc' := 29) rfl rfl (by rw [h11, hl]; simp only [nI_lit, nI_add, pk_mul]) (by omega) (by decide) rfl ?_
  refine Rn.step (pc' := 30) rfl rfl ?_
  refine Rn.getf (pc' := 33) rfl rfl rfl rfl rfl ?_
  refine Rn.step (pc' := 34) rfl rfl ?_
  refine Rn.getf (pc' := 37) rfl rfl rfl rfl rfl ?_
  refine Rn.step (pc' := 38) rfl rfl ?_
  refine Rn.mald (k := r) (pc' := 39) rfl rfl (h11) (by omega) (by decide) rfl ?_
  refine Rn.iconst (v := 1) (pc' := 40) rfl (by decide) rfl ?_
  refine Rn.iadd (pc' := 41) rfl rfl ?_
  refine Rn.mast (k := r) (pc' := 42) rfl rfl (h11) (by omega) (by decide) rfl ?_
  exact Rn.vret rfl (⟨rfl, by rw [show nI (l + 1) = A 53 r + 1 by rw [hl, nI_lit, nI_add]]; rfl⟩)
end MR
