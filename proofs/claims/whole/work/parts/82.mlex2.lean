/-! THE MODEL: its reader: passWord, fails, makes, puts. -/
section MN
variable {m0 : xM} {v : Nat → Int32} {dx : Int64} {A : Nat → Nat → Int32} {LA : Nat → Nat → Int64} {s : Nat → Int32}
theorem l_X_pass {d n : Nat} (hn : v 1 = nI n) (h4 : n ≤ 400) (hd : 1 ≤ d) (i : Nat) (hi : i ≤ n) : Rn d j_M_passWord 0 [.ref 50] [] (MM m0 (upd v 8 (nI i)) dx A LA) (Pv (MM m0 (upd v 8 (nI (leE (A 51) n i))) dx A LA)) := by
  refine Rn.step (pc' := 1) rfl rfl ?_
  refine Rn.step (pc' := 2) rfl rfl ?_
  refine Rn.getf (pc' := 5) rfl rfl rfl rfl rfl ?_
  refine Rn.vi (pc' := 8) rfl (by decide) (by omega) rfl rfl rfl (x_M_isLetter (n := n) (k := i) (by exact hn) h4 (by omega)) ?_
  refine Rn.ifp_eq (pc1 := 24) (pc2 := 11) rfl rfl rfl (fun h8 => ?_) (fun h8 => ?_)
  · exact Rn.vret rfl (⟨rfl, by rw [show leE (A 51) n i = i from rnE_z h8]⟩)
  · refine Rn.step (pc' := 12) rfl rfl ?_
    refine Rn.step (pc' := 13) rfl rfl ?_
    refine Rn.getf (pc' := 16) rfl rfl rfl rfl rfl ?_
    refine Rn.iconst (v := 1) (pc' := 17) rfl (by decide) rfl ?_
    refine Rn.iadd (pc' := 18) rfl rfl ?_
    refine Rn.mput (pc' := 21) rfl rfl rfl rfl (by decide) rfl ?_
    refine Rn.step (pc' := 0) rfl rfl ?_
    rw [updO, show upd v 8 (nI i) 8 + 1 = nI (i + 1) from nI_add i 1, show leE (A 51) n i = leE (A 51) n (i + 1) from rnE_s h8]
    exact l_X_pass hn h4 hd (i + 1) (by have := h8.1; omega)
termination_by n - i
decreasing_by have := h8.1; omega
theorem x_M_pass {d n i : Nat} (hn : v 1 = nI n) (h4 : n ≤ 400) (hd : 1 ≤ d) (h8 : v 8 = nI i) (hi : i ≤ n) : Cl d j_M_passWord [.ref 50] (MM m0 v dx A LA) (Pv (MM m0 (upd v 8 (nI (leE (A 51) n i))) dx A LA)) := by
  have := l_X_pass (m0 := m0) (dx := dx) (A := A) (LA := LA) (d := d) hn h4 hd i hi
  rw [updI h8] at this
  exact this
theorem x_M_fails {d p k : Nat} (hw : v 9 = 0) : Cl d j_M_fails [.ref 50, .int (nI k), .int (nI p)] (MM m0 v dx A LA) (Pi 0 (MM m0 (upd v 9 (nI (1 + 8 * p + k))) dx A LA)) := by
  show Rn d j_M_fails 0 _ _ _ _
  refine Rn.step (pc' := 1) rfl rfl ?_
  refine Rn.getf (pc' := 4) rfl rfl rfl rfl rfl ?_
  refine Rn.ifc_ne (pc1 := 19) (pc2 := 7) rfl rfl rfl (fun h4 => absurd h4 (fun z => z hw)) (fun h4 => ?_)
  refine Rn.step (pc' := 8) rfl rfl ?_
  refine Rn.iconst (v := 1) (pc' := 9) rfl (by decide) rfl ?_
  refine Rn.iconst (v := 8) (pc' := 11) rfl (by decide) rfl ?_
  refine Rn.step (pc' := 12) rfl rfl ?_
  refine Rn.imul (pc' := 13) rfl rfl ?_
  refine Rn.iadd (pc' := 14) rfl rfl ?_
  refine Rn.step (pc' := 15) rfl rfl ?_
  refine Rn.iadd (pc' := 16) rfl rfl ?_
  rw [show (1 : Int32) + 8 * nI p + nI k = nI (1 + 8 * p + k) by simp only [nI_lit, nI_add, pk_mul]]
  refine Rn.mput (pc' := 19) rfl rfl rfl rfl (by decide) rfl ?_
  refine Rn.iconst (v := 0) (pc' := 20) rfl (by decide) rfl ?_
  exact Rn.iret rfl (rfl) (⟨rfl, rfl⟩)
theorem x_M_makes {d p c : Nat} (hd : 1 ≤ d) (hw : v 9 = 0) (hc : v 12 = nI c) (h60 : c ≤ 60) : Cl d j_M_makes [.ref 50, .int (nI p)] (MM m0 v dx A LA) (fun r m2 => (c < 60 → r = some (.int 1) ∧ m2 = MM m0 (upd v 12 (nI (c + 1))) dx A LA) ∧ (¬ c < 60 → r = some (.int 0) ∧ m2 = MM m0 (upd v 9 (nI (1 + 8 * p + 3))) dx A LA)) := by
  show Rn d j_M_makes 0 _ _ _ _
  refine Rn.step (pc' := 1) rfl rfl ?_
  refine Rn.getf (pc' := 4) rfl rfl rfl rfl rfl ?_
  refine Rn.iconst (v := 60) (pc' := 6) rfl (by decide) rfl ?_
  refine Rn.icmp_ne (pc1 := 16) (pc2 := 9) rfl rfl rfl (fun h6 => ?_) (fun h6 => ?_)
  · refine Rn.step (pc' := 17) rfl rfl ?_
    refine Rn.step (pc' := 18) rfl rfl ?_
    refine Rn.getf (pc' := 21) rfl rfl rfl rfl rfl ?_
    refine Rn.iconst (v := 1) (pc' := 22) rfl (by decide) rfl ?_
    refine Rn.iadd (pc' := 23) rfl rfl ?_
    rw [show v 12 + 1 = nI (c + 1) by rw [hc, nI_lit, nI_add]]
    refine Rn.mput (pc' := 26) rfl rfl rfl rfl (by decide) rfl ?_
    refine Rn.iconst (v := 1) (pc' := 27) rfl (by decide) rfl ?_
    exact Rn.iret rfl (rfl) (⟨fun _ => ⟨rfl, rfl⟩, fun z => absurd (show v 12 = 60 by rw [hc, show c = 60 by omega]; rfl) h6⟩)
  · refine Rn.step (pc' := 10) rfl rfl ?_
    refine Rn.iconst (v := 3) (pc' := 11) rfl (by decide) rfl ?_
    refine Rn.step (pc' := 12) rfl rfl ?_
    refine Rn.vi (pc' := 15) rfl (by decide) (by omega) rfl rfl rfl (x_M_fails (k := 3) hw) ?_
    exact Rn.iret rfl (rfl) (⟨fun z => absurd ((nI_eq (a := c) (b := 60) (by omega) (by omega)).mp (by rw [← hc]; exact h6)) (by omega), fun _ => ⟨rfl, rfl⟩⟩)
end MN
