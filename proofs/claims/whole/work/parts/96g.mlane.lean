/-! THE MODEL: its reader of lanes. -/
section NJ2
variable {m0 : xM} {v : Nat → Int32} {dx : Int64} {A : Nat → Nat → Int32} {LA : Nat → Nat → Int64} {s : Nat → Int32}
section V7
variable {T : Nat → Int32} {n p : Nat} {q : Nat → Int32}
/-- the model's reader of lanes stands at p, and this is read -/
abbrev RL (v : Nat → Int32) (A : Nat → Nat → Int32) (T : Nat → Int32) (n : Nat) (z : gT) : Prop := TM v A T n z.1 ∧ v 9 = 0 ∧ A 56 = z.2
def xFK (v : Nat → Int32) (A : Nat → Nat → Int32) (v1 : Nat → Int32) (A1 : Nat → Nat → Int32) : Prop := (∀ k, k ≠ 8 → k ≠ 9 → k ≠ 10 → v1 k = v k) ∧ ∀ k, k ≠ 56 → A1 k = A k
theorem xFK.rfl (v : Nat → Int32) (A : Nat → Nat → Int32) : xFK v A v A := ⟨fun _ _ _ _ => Eq.refl _, fun _ _ => Eq.refl _⟩
theorem xFK.trans {v1 v2 : Nat → Int32} {A1 A2 : Nat → Nat → Int32} (h : xFK v A v1 A1) (g : xFK v1 A1 v2 A2) : xFK v A v2 A2 := ⟨fun k a b c => (g.1 k a b c).trans (h.1 k a b c), fun k a => (g.2 k a).trans (h.2 k a)⟩
theorem xFK.vv {v1 : Nat → Int32} {A1 : Nat → Nat → Int32} {k : Nat} {x : Int32} (h : xFK v A v1 A1) (hk : k = 8 ∨ k = 9 ∨ k = 10) : xFK v A (upd v1 k x) A1 := ⟨fun j a b c => (if_neg (show ¬ j = k by omega)).trans (h.1 j a b c), h.2⟩
theorem xFK.rd {v1 : Nat → Int32} {A1 : Nat → Nat → Int32} (h : xFK v A v1 A1) (f : Nat → Int32) : xFK v A v1 (va_up A1 56 f) := ⟨h.1, fun k a => (up_ne _ _ a).trans (h.2 k a)⟩
def gYK (v1 : Nat → Int32) (A1 : Nat → Nat → Int32) (T : Nat → Int32) (n : Nat) (o : Option Value) : gX → Prop
  | .inl e => o = some (.int 0) ∧ badE v1 e
  | .inr z => o = some (.int 1) ∧ RL v1 A1 T n z
def gY (m0 : xM) (v : Nat → Int32) (dx : Int64) (A : Nat → Nat → Int32) (LA : Nat → Nat → Int64) (T : Nat → Int32) (n : Nat) (x : gX) (o : Option Value) (m2 : xM) : Prop := ∃ v1 A1, m2 = MM m0 v1 dx A1 LA ∧ xFK v A v1 A1 ∧ gYK v1 A1 T n o x
theorem gY.mono {v1 : Nat → Int32} {A1 : Nat → Nat → Int32} {x : gX} {o : Option Value} {m2 : xM} (h : gY m0 v1 dx A1 LA T n x o m2) (hc : xFK v A v1 A1) : gY m0 v dx A LA T n x o m2 := by
  obtain ⟨v2, A2, e, c, g⟩ := h
  exact ⟨v2, A2, e, hc.trans c, g⟩
theorem gY_ret {x : gX} {o : Option Value} {m2 : xM} (h : gY m0 v dx A LA T n x o m2) : ∃ b : Int32, o = some (.int b) ∧ (b = 0 ∨ b = 1) := by
  obtain ⟨F1, I1, _, _, g⟩ := h
  cases x with
  | inl e => exact ⟨0, g.1, Or.inl rfl⟩
  | inr s => exact ⟨1, g.1, Or.inr rfl⟩
theorem gY_nar {b : Int32} {x : gX} {m2 : xM} (h : gY m0 v dx A LA T n x (some (.int b)) m2) : narrow .boolean (.int b) = .int b := by
  obtain ⟨b', e, h2⟩ := gY_ret h
  obtain rfl : b = b' := by injection e with e; injection e
  rcases h2 with rfl | rfl <;> rfl
theorem gY.bad {e : Nat} {v1 : Nat → Int32} {A1 : Nat → Nat → Int32} (h : xFK v A v1 A1) (h9 : badE v1 e) : gY m0 v dx A LA T n (.inl e) (some (.int 0)) (MM m0 v1 dx A1 LA) := ⟨v1, A1, rfl, h, rfl, h9⟩
theorem x_cell {d c : Nat} {lo hi_ : Int32} {s9 : gT} (hd : 2 ≤ d) (h : RL v A T n s9) (hc : c < 110) : Cl d j_M_cellHere [.ref 50, .int (nI c), .int lo, .int hi_] (MM m0 v dx A LA) (gY m0 v dx A LA T n (gNu T n lo hi_ c s9)) := by
  have h4 := h.1.2.2.1
  have hp := h.1.le
  show Rn d j_M_cellHere 0 _ _ _ _
  refine Rn.step (pc' := 1) rfl rfl ?_
  refine Rn.step (pc' := 2) rfl rfl ?_
  refine Rn.step (pc' := 3) rfl rfl ?_
  refine Rn.callV (pc' := 6) rfl (by decide) (by omega) rfl rfl rfl (x_number (by omega) h.1 h.2.1) (fun r_ m_ hc_ => ?_)
  unfold gNu
  by_cases kA : kdE T n s9.1 = 2
  rotate_left
  · obtain ⟨rfl, rfl⟩ := hc_.1 kA
    rw [if_neg kA]
    refine Rn.ifc_ne (pc1 := 11) (pc2 := 9) rfl rfl rfl (fun h36 => absurd rfl h36) (fun h36 => ?_)
    refine Rn.iconst (v := 0) (pc' := 10) rfl (by decide) rfl ?_
    exact Rn.iret rfl rfl (gY.bad (((xFK.rfl v A).vv (by omega)).vv (by omega)) ⟨rfl, by omega⟩)
  rw [if_pos kA]
  by_cases nA : nbE T n s9.1 lo hi_
  rotate_left
  · obtain ⟨rfl, rfl⟩ := (hc_.2 kA).2 nA
    rw [if_neg nA]
    refine Rn.ifc_ne (pc1 := 11) (pc2 := 9) rfl rfl rfl (fun h36 => absurd rfl h36) (fun h36 => ?_)
    refine Rn.iconst (v := 0) (pc' := 10) rfl (by decide) rfl ?_
    exact Rn.iret rfl rfl (gY.bad ((((xFK.rfl v A).vv (by omega)).vv (by omega)).vv (by omega)) ⟨rfl, by omega⟩)
  obtain ⟨rfl, rfl⟩ := (hc_.2 kA).1 nA
  rw [if_pos nA]
  clear hc_
  refine Rn.ifc_ne (pc1 := 11) (pc2 := 9) rfl rfl rfl (fun h6 => ?_) (fun h6 => absurd h6 (fun z => absurd z (by decide)))
  refine Rn.step (pc' := 12) rfl rfl ?_
  refine Rn.getf (pc' := 15) rfl rfl rfl rfl rfl ?_
  refine Rn.step (pc' := 16) rfl rfl ?_
  refine Rn.step (pc' := 17) rfl rfl ?_
  refine Rn.getf (pc' := 20) rfl rfl rfl rfl rfl ?_
  refine Rn.mast (k := c) (pc' := 21) rfl rfl (rfl) (hc) (by decide) rfl ?_
  refine Rn.iconst (v := 1) (pc' := 22) rfl (by decide) rfl ?_
  exact Rn.iret rfl (rfl) (⟨_, _, rfl, (((xFK.rfl v A).vv (by omega)).vv (by omega)).rd _, rfl, ⟨h.1.1, h.1.2.1, h.1.2.2.1, h.1.2.2.2.1, _, rfl, tkE_le h.1.le, rfl⟩, h.2.1, by rw [← h.2.2]; rfl⟩)
theorem x_L_1 {d : Nat} {PP Bn Fn Wn : Nat} (hd : 3 ≤ d) (h : RL v A T n (p, q)) (h8 : v 8 = nI p) (hkd : kdE T n p = 1 ∧ tkE T n p = leE T n p) (hv : LV PP Bn Fn Wn q) : Cl d j_M_isLaneHere [.ref 50, .int (nI p)] (MM m0 v dx A LA) (gY m0 v dx A LA T n (if 0 < q 0 then gF4 p else gL1 T n (nxE T n p, q))) := by
  have h4 := h.1.2.2.1
  have hp : p ≤ n := h.1.le
  have hA : A 56 = q := h.2.2
  have hb0 := hv.1
  have hb2 := hv.2.1
  have hb3 := hv.2.2.1
  have hb4 := hv.2.2.2.1
  show Rn d j_M_isLaneHere 0 _ _ _ _
  refine Rn.step (pc' := 1) rfl rfl ?_
  refine Rn.getf (pc' := 4) rfl rfl rfl rfl rfl ?_
  refine Rn.iconst (v := 0) (pc' := 5) rfl (by decide) rfl ?_
  refine Rn.mald (k := 0) (pc' := 6) rfl rfl (rfl) (by omega) (by decide) rfl ?_
  refine Rn.ifc_le (pc1 := 16) (pc2 := 9) rfl rfl rfl (fun h6 => ?_) (fun h6 => ?_)
  · rw [if_neg (show ¬ 0 < q 0 by rw [← hA]; exact Int32.not_lt.mpr h6)]
    unfold gL1
    refine Rn.step (pc' := 17) rfl rfl ?_
    refine Rn.vv (pc' := 20) rfl (by decide) (by omega) rfl rfl rfl (x_M_pass (n := n) (i := p) (by exact h.1.2.1) h4 (by omega) h8 hp) ?_
    rw [h.1.1]
    have hR0 : RL (upd v 8 (nI (leE T n p))) A T n (nxE T n p, q) := ⟨h.1.at (by exact rnE_le hp) (by show skE T n (leE T n p) = skE T n (tkE T n p); rw [hkd.2]), h.2⟩
    have hF0 : xFK v A (upd v 8 (nI (leE T n p))) A := (xFK.rfl v A).vv (by omega)
    refine Rn.step (pc' := 21) rfl rfl ?_
    refine Rn.iconst (v := 0) (pc' := 22) rfl (by decide) rfl ?_
    refine Rn.iconst (v := 2) (pc' := 23) rfl (by decide) rfl ?_
    refine Rn.iconst (v := 10) (pc' := 25) rfl (by decide) rfl ?_
    refine Rn.callV (pc' := 28) rfl (by decide) (by omega) rfl rfl rfl (x_cell (c := 0) (by omega) hR0 (by omega)) (fun r_ m_ hc_ => ?_)
    obtain ⟨v1, A1, rfl, hG1, hg1⟩ := hc_
    have hF1 := hF0.trans hG1
    cases hX1 : gNu T n 2 10 0 (nxE T n p, q) with
    | inl e =>
      rw [hX1] at hg1
      obtain ⟨rfl, h9⟩ := hg1
      refine Rn.ifc_eq (pc1 := 46) (pc2 := 31) rfl rfl rfl (fun h28 => ?_) (fun h28 => absurd (rfl) h28)
      refine Rn.iconst (v := 0) (pc' := 47) rfl (by decide) rfl ?_
      exact Rn.iret rfl (rfl) (gY.bad hF1 h9)
    | inr z1 =>
      rw [hX1] at hg1
      obtain ⟨rfl, hR1⟩ := hg1
      obtain ⟨kA1, nA1, hz1⟩ := gNu_r hX1
      refine Rn.ifc_eq (pc1 := 46) (pc2 := 31) rfl rfl rfl (fun h28 => absurd h28 (fun z => absurd z (by decide))) (fun h28 => ?_)
      refine Rn.step (pc' := 32) rfl rfl ?_
      refine Rn.iconst (v := 1) (pc' := 33) rfl (by decide) rfl ?_
      refine Rn.iconst (v := 0) (pc' := 34) rfl (by decide) rfl ?_
      refine Rn.iconst (v := 9) (pc' := 36) rfl (by decide) rfl ?_
      refine Rn.callV (pc' := 39) rfl (by decide) (by omega) rfl rfl rfl (x_cell (c := 1) (by omega) hR1 (by omega)) (fun r_ m_ hc_ => ?_)
      show Rn _ _ _ _ _ _ (gY m0 v dx A LA T n (gNu T n 0 9 1 z1))
      obtain ⟨v2, A2, rfl, hG2, hg2⟩ := hc_
      have hF2 := hF1.trans hG2
      cases hX2 : gNu T n 0 9 1 z1 with
      | inl e =>
        rw [hX2] at hg2
        obtain ⟨rfl, h9⟩ := hg2
        refine Rn.ifc_eq (pc1 := 46) (pc2 := 42) rfl rfl rfl (fun h39 => ?_) (fun h39 => absurd (rfl) h39)
        refine Rn.iconst (v := 0) (pc' := 47) rfl (by decide) rfl ?_
        exact Rn.iret rfl (rfl) (gY.bad hF2 h9)
      | inr z2 =>
        rw [hX2] at hg2
        obtain ⟨rfl, hR2⟩ := hg2
        obtain ⟨kA2, nA2, hz2⟩ := gNu_r hX2
        clear kA2 nA2 hz2
        refine Rn.ifc_eq (pc1 := 46) (pc2 := 42) rfl rfl rfl (fun h39 => absurd h39 (fun z => absurd z (by decide))) (fun h39 => ?_)
        refine Rn.iconst (v := 1) (pc' := 43) rfl (by decide) rfl ?_
        refine Rn.step (pc' := 47) rfl rfl ?_
        exact Rn.iret rfl (rfl) (⟨_, _, rfl, hF2, rfl, hR2⟩)
  · rw [if_pos (show 0 < q 0 by rw [← hA]; exact Int32.not_le.mp h6)]
    refine Rn.step (pc' := 10) rfl rfl ?_
    refine Rn.iconst (v := 4) (pc' := 11) rfl (by decide) rfl ?_
    refine Rn.step (pc' := 12) rfl rfl ?_
    refine Rn.vi (pc' := 15) rfl (by decide) (by omega) rfl rfl rfl (x_M_fails (k := 4) (p := p) (by exact h.2.1)) ?_
    exact Rn.iret rfl (rfl) (gY.bad (xFK.vv (xFK.rfl v A) (by omega)) ⟨rfl, by omega⟩)
theorem x_L_3 {d : Nat} {PP Bn Fn Wn : Nat} (hd : 3 ≤ d) (h : RL v A T n (p, q)) (h8 : v 8 = nI p) (hkd : kdE T n p = 1 ∧ tkE T n p = leE T n p) (hv : LV PP Bn Fn Wn q) : Cl d j_M_isWetHere [.ref 50] (MM m0 v dx A LA) (gY m0 v dx A LA T n (gL3 T n (nxE T n p, q))) := by
  have h4 := h.1.2.2.1
  have hp : p ≤ n := h.1.le
  have hA : A 56 = q := h.2.2
  have hb0 := hv.1
  have hb2 := hv.2.1
  have hb3 := hv.2.2.1
  have hb4 := hv.2.2.2.1
  show Rn d j_M_isWetHere 0 _ _ _ _
  refine Rn.step (pc' := 1) rfl rfl ?_
  refine Rn.vv (pc' := 4) rfl (by decide) (by omega) rfl rfl rfl (x_M_pass (n := n) (i := p) (by exact h.1.2.1) h4 (by omega) h8 hp) ?_
  rw [h.1.1]
  have hR0 : RL (upd v 8 (nI (leE T n p))) A T n (nxE T n p, q) := ⟨h.1.at (by exact rnE_le hp) (by show skE T n (leE T n p) = skE T n (tkE T n p); rw [hkd.2]), h.2⟩
  have hF0 : xFK v A (upd v 8 (nI (leE T n p))) A := (xFK.rfl v A).vv (by omega)
  have hnx := nx_le (T := T) hp
  refine Rn.step (pc' := 5) rfl rfl ?_
  refine Rn.iconst (v := 0) (pc' := 6) rfl (by decide) rfl ?_
  refine Rn.step (pc' := 7) rfl rfl ?_
  refine Rn.getf (pc' := 10) rfl rfl rfl rfl rfl ?_
  refine Rn.iconst (v := 0) (pc' := 11) rfl (by decide) rfl ?_
  refine Rn.mald (k := 0) (pc' := 12) rfl rfl (rfl) (by omega) (by decide) rfl ?_
  refine Rn.iconst (v := 1) (pc' := 13) rfl (by decide) rfl ?_
  refine Rn.isub (pc' := 14) rfl rfl ?_
  rw [show A 56 0 - 1 = q 0 - 1 by rw [hA]]
  refine Rn.callV (pc' := 17) rfl (by decide) (by omega) rfl rfl rfl (x_number (by omega) hR0.1 hR0.2.1) (fun r_ m_ hc_ => ?_)
  unfold gL3
  unfold gNu
  by_cases kA : kdE T n (nxE T n p) = 2
  rotate_left
  · obtain ⟨rfl, rfl⟩ := hc_.1 kA
    rw [if_neg kA]
    refine Rn.ifc_ne (pc1 := 22) (pc2 := 20) rfl rfl rfl (fun h36 => absurd rfl h36) (fun h36 => ?_)
    refine Rn.iconst (v := 0) (pc' := 21) rfl (by decide) rfl ?_
    exact Rn.iret rfl rfl (gY.bad ((hF0.vv (by omega)).vv (by omega)) ⟨rfl, by omega⟩)
  rw [if_pos kA]
  by_cases nA : nbE T n (nxE T n p) 0 (q 0 - 1)
  rotate_left
  · obtain ⟨rfl, rfl⟩ := (hc_.2 kA).2 nA
    rw [if_neg nA]
    refine Rn.ifc_ne (pc1 := 22) (pc2 := 20) rfl rfl rfl (fun h36 => absurd rfl h36) (fun h36 => ?_)
    refine Rn.iconst (v := 0) (pc' := 21) rfl (by decide) rfl ?_
    exact Rn.iret rfl rfl (gY.bad (((hF0.vv (by omega)).vv (by omega)).vv (by omega)) ⟨rfl, by omega⟩)
  obtain ⟨rfl, rfl⟩ := (hc_.2 kA).1 nA
  rw [if_pos nA]
  obtain ⟨x, x1, x2⟩ := nb_0 (m := PP) (by rw [hb0.1]) (by omega) nA
  have hx : cN (upd q 200 (vlE T n (nxE T n p)) 200) = x := by rw [upS, x2]; exact nI_clamp (by omega)
  show Rn _ _ _ _ _ _ (gY m0 v dx A LA T n (gNu T n 0 9 (100 + cN (upd q 200 (vlE T n (nxE T n p)) 200)) (nxE T n (nxE T n p), q)))
  rw [hx]
  have hR1 : RL (upd (upd (upd v 8 (nI (leE T n p))) 8 (nI (tkE T n (nxE T n p)))) 10 (vlE T n (nxE T n p))) A T n (nxE T n (nxE T n p), q) := ⟨⟨hR0.1.1, hR0.1.2.1, hR0.1.2.2.1, hR0.1.2.2.2.1, _, rfl, tkE_le (nx_le hp), rfl⟩, hR0.2⟩
  have hF1 := (hF0.vv (k := 8) (x := nI (tkE T n (nxE T n p))) (by omega)).vv (k := 10) (x := vlE T n (nxE T n p)) (by omega)
  clear hc_
  refine Rn.ifc_ne (pc1 := 22) (pc2 := 20) rfl rfl rfl (fun h17 => ?_) (fun h17 => absurd h17 (fun z => absurd z (by decide)))
  refine Rn.step (pc' := 23) rfl rfl ?_
  refine Rn.iconst (v := 100) (pc' := 25) rfl (by decide) rfl ?_
  refine Rn.step (pc' := 26) rfl rfl ?_
  refine Rn.getf (pc' := 29) rfl rfl rfl rfl rfl ?_
  rw [show upd (upd (upd v 8 (nI (leE T n p))) 8 (nI (tkE T n (nxE T n p)))) 10 (vlE T n (nxE T n p)) 10 = nI x from x2]
  refine Rn.iadd (pc' := 30) rfl rfl ?_
  rw [show (100 : Int32) + nI x = nI (100 + x) from nI_add 100 x]
  refine Rn.iconst (v := 0) (pc' := 31) rfl (by decide) rfl ?_
  refine Rn.iconst (v := 9) (pc' := 33) rfl (by decide) rfl ?_
  refine Rn.callV (pc' := 36) rfl (by decide) (by omega) rfl rfl rfl (x_cell (c := 100 + x) (by omega) hR1 (by omega)) (fun r_ m_ hc_ => ?_)
  have hc2 := gY.mono hc_ hF1
  obtain ⟨b, e, _⟩ := gY_ret hc2
  subst e
  exact Rn.iret rfl (gY_nar hc2) hc2
theorem x_L_6 {d : Nat} {PP Bn Fn Wn : Nat} (hd : 3 ≤ d) (h : RL v A T n (p, q)) (h8 : v 8 = nI p) (hkd : kdE T n p = 1 ∧ tkE T n p = leE T n p) (hv : LV PP Bn Fn Wn q) : Cl d j_M_isSoleHere [.ref 50, .int (nI p)] (MM m0 v dx A LA) (gY m0 v dx A LA T n (if 0 ≤ q 8 then gF4 p else gNu T n 1 99 8 (nxE T n p, q))) := by
  have h4 := h.1.2.2.1
  have hp : p ≤ n := h.1.le
  have hA : A 56 = q := h.2.2
  have hb0 := hv.1
  have hb2 := hv.2.1
  have hb3 := hv.2.2.1
  have hb4 := hv.2.2.2.1
  show Rn d j_M_isSoleHere 0 _ _ _ _
  refine Rn.step (pc' := 1) rfl rfl ?_
  refine Rn.getf (pc' := 4) rfl rfl rfl rfl rfl ?_
  refine Rn.iconst (v := 8) (pc' := 6) rfl (by decide) rfl ?_
  refine Rn.mald (k := 8) (pc' := 7) rfl rfl (rfl) (by omega) (by decide) rfl ?_
  refine Rn.ifc_lt (pc1 := 17) (pc2 := 10) rfl rfl rfl (fun h7 => ?_) (fun h7 => ?_)
  · rw [if_neg (show ¬ 0 ≤ q 8 by rw [← hA]; exact Int32.not_le.mpr h7)]
    refine Rn.step (pc' := 18) rfl rfl ?_
    refine Rn.vv (pc' := 21) rfl (by decide) (by omega) rfl rfl rfl (x_M_pass (n := n) (i := p) (by exact h.1.2.1) h4 (by omega) h8 hp) ?_
    rw [h.1.1]
    have hR0 : RL (upd v 8 (nI (leE T n p))) A T n (nxE T n p, q) := ⟨h.1.at (by exact rnE_le hp) (by show skE T n (leE T n p) = skE T n (tkE T n p); rw [hkd.2]), h.2⟩
    have hF0 : xFK v A (upd v 8 (nI (leE T n p))) A := (xFK.rfl v A).vv (by omega)
    refine Rn.step (pc' := 22) rfl rfl ?_
    refine Rn.iconst (v := 8) (pc' := 24) rfl (by decide) rfl ?_
    refine Rn.iconst (v := 1) (pc' := 25) rfl (by decide) rfl ?_
    refine Rn.iconst (v := 99) (pc' := 27) rfl (by decide) rfl ?_
    refine Rn.callV (pc' := 30) rfl (by decide) (by omega) rfl rfl rfl (x_cell (c := 8) (by omega) hR0 (by omega)) (fun r_ m_ hc_ => ?_)
    have hc2 := gY.mono hc_ hF0
    obtain ⟨b, e, _⟩ := gY_ret hc2
    subst e
    exact Rn.iret rfl (gY_nar hc2) hc2
  · rw [if_pos (show 0 ≤ q 8 by rw [← hA]; exact Int32.not_lt.mp h7)]
    refine Rn.step (pc' := 11) rfl rfl ?_
    refine Rn.iconst (v := 4) (pc' := 12) rfl (by decide) rfl ?_
    refine Rn.step (pc' := 13) rfl rfl ?_
    refine Rn.vi (pc' := 16) rfl (by decide) (by omega) rfl rfl rfl (x_M_fails (k := 4) (p := p) (by exact h.2.1)) ?_
    exact Rn.iret rfl (rfl) (gY.bad (xFK.vv (xFK.rfl v A) (by omega)) ⟨rfl, by omega⟩)
theorem x_L_7 {d : Nat} {PP Bn Fn Wn : Nat} (hd : 3 ≤ d) (h : RL v A T n (p, q)) (h8 : v 8 = nI p) (hkd : kdE T n p = 1 ∧ tkE T n p = leE T n p) (hv : LV PP Bn Fn Wn q) : Cl d j_M_areBootsHere [.ref 50, .int (nI p)] (MM m0 v dx A LA) (gY m0 v dx A LA T n (if 0 ≤ q 9 then gF4 p else gNu T n 0 (q 0 - 1) 9 (nxE T n p, q))) := by
  have h4 := h.1.2.2.1
  have hp : p ≤ n := h.1.le
  have hA : A 56 = q := h.2.2
  have hb0 := hv.1
  have hb2 := hv.2.1
  have hb3 := hv.2.2.1
  have hb4 := hv.2.2.2.1
  show Rn d j_M_areBootsHere 0 _ _ _ _
  refine Rn.step (pc' := 1) rfl rfl ?_
  refine Rn.getf (pc' := 4) rfl rfl rfl rfl rfl ?_
  refine Rn.iconst (v := 9) (pc' := 6) rfl (by decide) rfl ?_
  refine Rn.mald (k := 9) (pc' := 7) rfl rfl (rfl) (by omega) (by decide) rfl ?_
  refine Rn.ifc_lt (pc1 := 17) (pc2 := 10) rfl rfl rfl (fun h7 => ?_) (fun h7 => ?_)
  · rw [if_neg (show ¬ 0 ≤ q 9 by rw [← hA]; exact Int32.not_le.mpr h7)]
    refine Rn.step (pc' := 18) rfl rfl ?_
    refine Rn.vv (pc' := 21) rfl (by decide) (by omega) rfl rfl rfl (x_M_pass (n := n) (i := p) (by exact h.1.2.1) h4 (by omega) h8 hp) ?_
    rw [h.1.1]
    have hR0 : RL (upd v 8 (nI (leE T n p))) A T n (nxE T n p, q) := ⟨h.1.at (by exact rnE_le hp) (by show skE T n (leE T n p) = skE T n (tkE T n p); rw [hkd.2]), h.2⟩
    have hF0 : xFK v A (upd v 8 (nI (leE T n p))) A := (xFK.rfl v A).vv (by omega)
    refine Rn.step (pc' := 22) rfl rfl ?_
    refine Rn.iconst (v := 9) (pc' := 24) rfl (by decide) rfl ?_
    refine Rn.iconst (v := 0) (pc' := 25) rfl (by decide) rfl ?_
    refine Rn.step (pc' := 26) rfl rfl ?_
    refine Rn.getf (pc' := 29) rfl rfl rfl rfl rfl ?_
    refine Rn.iconst (v := 0) (pc' := 30) rfl (by decide) rfl ?_
    refine Rn.mald (k := 0) (pc' := 31) rfl rfl (rfl) (by omega) (by decide) rfl ?_
    refine Rn.iconst (v := 1) (pc' := 32) rfl (by decide) rfl ?_
    refine Rn.isub (pc' := 33) rfl rfl ?_
    rw [show A 56 0 - 1 = q 0 - 1 by rw [hA]]
    refine Rn.callV (pc' := 36) rfl (by decide) (by omega) rfl rfl rfl (x_cell (c := 9) (by omega) hR0 (by omega)) (fun r_ m_ hc_ => ?_)
    have hc2 := gY.mono hc_ hF0
    obtain ⟨b, e, _⟩ := gY_ret hc2
    subst e
    exact Rn.iret rfl (gY_nar hc2) hc2
  · rw [if_pos (show 0 ≤ q 9 by rw [← hA]; exact Int32.not_lt.mp h7)]
    refine Rn.step (pc' := 11) rfl rfl ?_
    refine Rn.iconst (v := 4) (pc' := 12) rfl (by decide) rfl ?_
    refine Rn.step (pc' := 13) rfl rfl ?_
    refine Rn.vi (pc' := 16) rfl (by decide) (by omega) rfl rfl rfl (x_M_fails (k := 4) (p := p) (by exact h.2.1)) ?_
    exact Rn.iret rfl (rfl) (gY.bad (xFK.vv (xFK.rfl v A) (by omega)) ⟨rfl, by omega⟩)
end V7
end NJ2
