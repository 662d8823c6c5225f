/-! THE MODEL: its reader of lanes, the other clauses. -/
section NK2
variable {m0 : xM} {v : Nat → Int32} {dx : Int64} {A : Nat → Nat → Int32} {LA : Nat → Nat → Int64} {s : Nat → Int32}
section V8
variable {T : Nat → Int32} {n p : Nat} {q : Nat → Int32}
/-- the cells b + 3 .. of a brother, emptied below k -/
def frB (f : Nat → Int32) (b k : Nat) : Nat → Int32 := fun j => if b + 3 ≤ j ∧ j < b + k then 0 else f j
theorem frB_s (f : Nat → Int32) (b k : Nat) (hk : 3 ≤ k) : upd (frB f b k) (b + k) 0 = frB f b (k + 1) := by
  funext j
  unfold frB
  by_cases h : j = b + k
  · subst h
    rw [upS, if_pos (by omega)]
  · rw [upN _ _ h]
    by_cases h2 : b + 3 ≤ j ∧ j < b + k
    · rw [if_pos h2, if_pos (by omega)]
    · rw [if_neg h2, if_neg (by omega)]
theorem frB_6 (f : Nat → Int32) (b : Nat) : frB f b 6 = upd (upd (upd f (b + 3) 0) (b + 4) 0) (b + 5) 0 := by
  funext j
  unfold frB
  by_cases h5 : j = b + 5
  · subst h5
    rw [upS, if_pos (by omega)]
  · rw [upN _ _ h5]
    by_cases h4 : j = b + 4
    · subst h4
      rw [upS, if_pos (by omega)]
    · rw [upN _ _ h4]
      by_cases h3 : j = b + 3
      · subst h3
        rw [upS, if_pos (by omega)]
      · rw [upN _ _ h3, if_neg (by omega)]
theorem l_X_br {d Bn : Nat} {x : Int32} {f : Nat → Int32} {Q : Option Value → xM → Prop} (hB : Bn < 6) (k : Nat) (hk : 3 ≤ k ∧ k ≤ 6) (kk : Rn d j_M_isBrotherHere 104 [.ref 50, .int x, .int (nI (10 + 6 * Bn)), .int (nI 6)] [] (MM m0 v dx (va_up A 56 (frB f (10 + 6 * Bn) 6)) LA) Q) : Rn d j_M_isBrotherHere 83 [.ref 50, .int x, .int (nI (10 + 6 * Bn)), .int (nI k)] [] (MM m0 v dx (va_up A 56 (frB f (10 + 6 * Bn) k)) LA) Q := by
  refine Rn.step (pc' := 84) rfl rfl ?_
  refine Rn.iconst (v := 6) (pc' := 86) rfl (by decide) rfl ?_
  refine Rn.icmp_ge (pc1 := 104) (pc2 := 89) rfl rfl rfl (fun h86 => ?_) (fun h86 => ?_)
  · have hk2 : k = 6 := by
      have := (nI_leI (a := 6) (b := k) (by omega) (by omega)).mp h86
      omega
    subst hk2
    exact kk
  · refine Rn.step (pc' := 90) rfl rfl ?_
    refine Rn.getf (pc' := 93) rfl rfl rfl rfl rfl ?_
    refine Rn.step (pc' := 94) rfl rfl ?_
    refine Rn.step (pc' := 95) rfl rfl ?_
    refine Rn.iadd (pc' := 96) rfl rfl ?_
    refine Rn.iconst (v := 0) (pc' := 97) rfl (by decide) rfl ?_
    refine Rn.mast (k := (10 + 6 * Bn) + k) (pc' := 98) rfl rfl (by rw [nI_add]) (by omega) (by decide) rfl ?_
    refine Rn.step (pc' := 101) rfl rfl ?_
    refine Rn.step (pc' := 83) rfl rfl ?_
    rw [show nI k + Int32.ofInt 1 = nI (k + 1) from nI_add k 1]
    have hk2 : k < 6 := by
      have := mt (nI_leI (a := 6) (b := k) (by omega) (by omega)).mpr h86
      omega
    rw [va_up_self, up_up, frB_s _ _ _ hk.1]
    exact l_X_br hB (k + 1) (by omega) kk
termination_by 6 - k
theorem x_L_2 {d : Nat} {PP Bn Fn Wn : Nat} (hd : 3 ≤ d) (h : RL v A T n (p, q)) (h8 : v 8 = nI p) (hkd : kdE T n p = 1 ∧ tkE T n p = leE T n p) (hv : LV PP Bn Fn Wn q) : Cl d j_M_isBrotherHere [.ref 50, .int (nI p)] (MM m0 v dx A LA) (gY m0 v dx A LA T n (if q 2 = 6 then gF4 p else gL2 T n (10 + 6 * cN (q 2)) (nxE T n p, q))) := by
  have h4 := h.1.2.2.1
  have hp : p ≤ n := h.1.le
  have hA : A 56 = q := h.2.2
  have hb0 := hv.1
  have hb2 := hv.2.1
  have hb3 := hv.2.2.1
  have hb4 := hv.2.2.2.1
  show Rn d j_M_isBrotherHere 0 _ _ _ _
  refine Rn.step (pc' := 1) rfl rfl ?_
  refine Rn.getf (pc' := 4) rfl rfl rfl rfl rfl ?_
  refine Rn.iconst (v := 2) (pc' := 5) rfl (by decide) rfl ?_
  refine Rn.mald (k := 2) (pc' := 6) rfl rfl (rfl) (by omega) (by decide) rfl ?_
  refine Rn.iconst (v := 6) (pc' := 8) rfl (by decide) rfl ?_
  refine Rn.icmp_ne (pc1 := 18) (pc2 := 11) rfl rfl rfl (fun h8x => ?_) (fun h8x => ?_)
  · rw [if_neg (show ¬ q 2 = 6 by rw [← hA]; exact h8x)]
    have hB6 : Bn < 6 := hv.n2 (show ¬ q 2 = 6 by rw [← hA]; exact h8x)
    rw [hv.c2]
    unfold gL2
    refine Rn.step (pc' := 19) rfl rfl ?_
    refine Rn.vv (pc' := 22) rfl (by decide) (by omega) rfl rfl rfl (x_M_pass (n := n) (i := p) (by exact h.1.2.1) h4 (by omega) h8 hp) ?_
    rw [h.1.1]
    have hR0 : RL (upd v 8 (nI (leE T n p))) A T n (nxE T n p, q) := ⟨h.1.at (by exact rnE_le hp) (by show skE T n (leE T n p) = skE T n (tkE T n p); rw [hkd.2]), h.2⟩
    have hF0 : xFK v A (upd v 8 (nI (leE T n p))) A := (xFK.rfl v A).vv (by omega)
    refine Rn.iconst (v := 10) (pc' := 24) rfl (by decide) rfl ?_
    refine Rn.iconst (v := 6) (pc' := 26) rfl (by decide) rfl ?_
    refine Rn.step (pc' := 27) rfl rfl ?_
    refine Rn.getf (pc' := 30) rfl rfl rfl rfl rfl ?_
    refine Rn.iconst (v := 2) (pc' := 31) rfl (by decide) rfl ?_
    refine Rn.mald (k := 2) (pc' := 32) rfl rfl (rfl) (by omega) (by decide) rfl ?_
    refine Rn.imul (pc' := 33) rfl rfl ?_
    refine Rn.iadd (pc' := 34) rfl rfl ?_
    rw [show (10 : Int32) + 6 * A 56 2 = nI (10 + 6 * Bn) by rw [hA, hb2.1]; simp only [nI_lit, nI_add, pk_mul]]
    refine Rn.step (pc' := 35) rfl rfl ?_
    refine Rn.step (pc' := 36) rfl rfl ?_
    refine Rn.step (pc' := 37) rfl rfl ?_
    refine Rn.iconst (v := 0) (pc' := 38) rfl (by decide) rfl ?_
    refine Rn.step (pc' := 39) rfl rfl ?_
    refine Rn.getf (pc' := 42) rfl rfl rfl rfl rfl ?_
    refine Rn.iconst (v := 0) (pc' := 43) rfl (by decide) rfl ?_
    refine Rn.mald (k := 0) (pc' := 44) rfl rfl (rfl) (by omega) (by decide) rfl ?_
    refine Rn.iconst (v := 1) (pc' := 45) rfl (by decide) rfl ?_
    refine Rn.isub (pc' := 46) rfl rfl ?_
    rw [show A 56 0 - 1 = q 0 - 1 by rw [hA]]
    show Rn _ _ _ _ _ _ (gY m0 v dx A LA T n (gBx (gNu T n 0 (q 0 - 1) (10 + 6 * Bn) (nxE T n p, q)) (fun z => gBx (gNu T n 0 9 ((10 + 6 * Bn) + 2) z) (gBr (10 + 6 * Bn)))))
    refine Rn.callV (pc' := 49) rfl (by decide) (by omega) rfl rfl rfl (x_cell (c := (10 + 6 * Bn)) (by omega) hR0 (by omega)) (fun r_ m_ hc_ => ?_)
    obtain ⟨v1, A1, rfl, hG1, hg1⟩ := hc_
    have hF1 := hF0.trans hG1
    cases hX1 : gNu T n 0 (q 0 - 1) (10 + 6 * Bn) (nxE T n p, q) with
    | inl e =>
      rw [hX1] at hg1
      obtain ⟨rfl, h9⟩ := hg1
      refine Rn.ifc_eq (pc1 := 65) (pc2 := 52) rfl rfl rfl (fun h49 => ?_) (fun h49 => absurd (rfl) h49)
      refine Rn.iconst (v := 0) (pc' := 66) rfl (by decide) rfl ?_
      exact Rn.iret rfl (rfl) (gY.bad hF1 h9)
    | inr z1 =>
      rw [hX1] at hg1
      obtain ⟨rfl, hR1⟩ := hg1
      obtain ⟨kA1, nA1, hz1⟩ := gNu_r hX1
      refine Rn.ifc_eq (pc1 := 65) (pc2 := 52) rfl rfl rfl (fun h49 => absurd h49 (fun z => absurd z (by decide))) (fun h49 => ?_)
      refine Rn.step (pc' := 53) rfl rfl ?_
      refine Rn.step (pc' := 54) rfl rfl ?_
      refine Rn.iconst (v := 2) (pc' := 55) rfl (by decide) rfl ?_
      refine Rn.iadd (pc' := 56) rfl rfl ?_
      refine Rn.iconst (v := 0) (pc' := 57) rfl (by decide) rfl ?_
      refine Rn.iconst (v := 9) (pc' := 59) rfl (by decide) rfl ?_
      refine Rn.callV (pc' := 62) rfl (by decide) (by omega) rfl rfl rfl (by rw [show nI (10 + 6 * Bn) + 2 = nI ((10 + 6 * Bn) + 2) from nI_add _ 2]; exact x_cell (c := (10 + 6 * Bn) + 2) (by omega) hR1 (by omega)) (fun r_ m_ hc_ => ?_)
      show Rn _ _ _ _ _ _ (gY m0 v dx A LA T n (gBx (gNu T n 0 9 (10 + 6 * Bn + 2) z1) (gBr (10 + 6 * Bn))))
      obtain ⟨v2, A2, rfl, hG2, hg2⟩ := hc_
      have hF2 := hF1.trans hG2
      cases hX2 : gNu T n 0 9 ((10 + 6 * Bn) + 2) z1 with
      | inl e =>
        rw [hX2] at hg2
        obtain ⟨rfl, h9⟩ := hg2
        refine Rn.ifc_ne (pc1 := 67) (pc2 := 65) rfl rfl rfl (fun h62 => absurd h62 (fun z => z rfl)) (fun h62 => ?_)
        refine Rn.iconst (v := 0) (pc' := 66) rfl (by decide) rfl ?_
        exact Rn.iret rfl (rfl) (gY.bad hF2 h9)
      | inr z2 =>
        rw [hX2] at hg2
        obtain ⟨rfl, hR2⟩ := hg2
        obtain ⟨kA2, nA2, hz2⟩ := gNu_r hX2
        have hA2 : A2 56 = z2.2 := hR2.2.2
        refine Rn.ifc_ne (pc1 := 67) (pc2 := 65) rfl rfl rfl (fun h62 => ?_) (fun h62 => absurd h62 (fun z => absurd z (by decide)))
        refine Rn.step (pc' := 68) rfl rfl ?_
        refine Rn.getf (pc' := 71) rfl rfl rfl rfl rfl ?_
        refine Rn.step (pc' := 72) rfl rfl ?_
        refine Rn.iconst (v := 1) (pc' := 73) rfl (by decide) rfl ?_
        refine Rn.iadd (pc' := 74) rfl rfl ?_
        refine Rn.step (pc' := 75) rfl rfl ?_
        refine Rn.getf (pc' := 78) rfl rfl rfl rfl rfl ?_
        refine Rn.step (pc' := 79) rfl rfl ?_
        refine Rn.mald (k := (10 + 6 * Bn)) (pc' := 80) rfl rfl (rfl) (by omega) (by decide) rfl ?_
        refine Rn.mast (k := (10 + 6 * Bn) + 1) (pc' := 81) rfl rfl (by rw [show (1 : Int32) = nI 1 from rfl, nI_add]) (by omega) (by decide) rfl ?_
        refine Rn.iconst (v := 3) (pc' := 82) rfl (by decide) rfl ?_
        refine Rn.step (pc' := 83) rfl rfl ?_
        rw [show upd (A2 56) ((10 + 6 * Bn) + 1) (A2 56 (10 + 6 * Bn)) = frB (upd (A2 56) ((10 + 6 * Bn) + 1) (A2 56 (10 + 6 * Bn))) (10 + 6 * Bn) 3 by funext j; unfold frB; rw [if_neg (by omega)]]
        refine l_X_br hB6 3 (by omega) ?_
        rw [frB_6]
        refine Rn.step (pc' := 105) rfl rfl ?_
        refine Rn.getf (pc' := 108) rfl rfl rfl rfl rfl ?_
        refine Rn.iconst (v := 2) (pc' := 109) rfl (by decide) rfl ?_
        refine Rn.step (pc' := 110) rfl rfl ?_
        refine Rn.mald (k := 2) (pc' := 111) rfl rfl (rfl) (by omega) (by decide) rfl ?_
        refine Rn.iconst (v := 1) (pc' := 112) rfl (by decide) rfl ?_
        refine Rn.iadd (pc' := 113) rfl rfl ?_
        refine Rn.mast (k := 2) (pc' := 114) rfl rfl (rfl) (by omega) (by decide) rfl ?_
        refine Rn.iconst (v := 1) (pc' := 115) rfl (by decide) rfl ?_
        refine Rn.iret rfl rfl ⟨_, _, rfl, (hF2.rd _).rd _, rfl, ⟨hR2.1, hR2.2.1, ?_⟩⟩
        rw [va_up_self]
        show upd (upd (upd (upd (upd (A2 56) ((10 + 6 * Bn) + 1) (A2 56 (10 + 6 * Bn))) ((10 + 6 * Bn) + 3) 0) ((10 + 6 * Bn) + 4) 0) ((10 + 6 * Bn) + 5) 0) 2 (upd (upd (upd (upd (A2 56) ((10 + 6 * Bn) + 1) (A2 56 (10 + 6 * Bn))) ((10 + 6 * Bn) + 3) 0) ((10 + 6 * Bn) + 4) 0) ((10 + 6 * Bn) + 5) 0 2 + 1) = upd (upd (upd (upd (upd z2.2 ((10 + 6 * Bn) + 1) (z2.2 (10 + 6 * Bn))) ((10 + 6 * Bn) + 3) 0) ((10 + 6 * Bn) + 4) 0) ((10 + 6 * Bn) + 5) 0) 2 (z2.2 2 + 1)
        rw [upN _ _ (show 2 ≠ (10 + 6 * Bn) + 5 by omega), upN _ _ (show 2 ≠ (10 + 6 * Bn) + 4 by omega), upN _ _ (show 2 ≠ (10 + 6 * Bn) + 3 by omega), upN _ _ (show 2 ≠ (10 + 6 * Bn) + 1 by omega), hA2]
  · rw [if_pos (show q 2 = 6 by rw [← hA]; exact h8x)]
    refine Rn.step (pc' := 12) rfl rfl ?_
    refine Rn.iconst (v := 4) (pc' := 13) rfl (by decide) rfl ?_
    refine Rn.step (pc' := 14) rfl rfl ?_
    refine Rn.vi (pc' := 17) rfl (by decide) (by omega) rfl rfl rfl (x_M_fails (k := 4) (p := p) (by exact h.2.1)) ?_
    exact Rn.iret rfl (rfl) (gY.bad (xFK.vv (xFK.rfl v A) (by omega)) ⟨rfl, by omega⟩)
theorem x_L_4 {d : Nat} {PP Bn Fn Wn : Nat} (hd : 3 ≤ d) (h : RL v A T n (p, q)) (h8 : v 8 = nI p) (hkd : kdE T n p = 1 ∧ tkE T n p = leE T n p) (hv : LV PP Bn Fn Wn q) : Cl d j_M_isFrostHere [.ref 50, .int (nI p)] (MM m0 v dx A LA) (gY m0 v dx A LA T n (if q 3 = 4 then gF4 p else gL4 T n (52 + 2 * cN (q 3)) (nxE T n p, q))) := by
  have h4 := h.1.2.2.1
  have hp : p ≤ n := h.1.le
  have hA : A 56 = q := h.2.2
  have hb0 := hv.1
  have hb2 := hv.2.1
  have hb3 := hv.2.2.1
  have hb4 := hv.2.2.2.1
  show Rn d j_M_isFrostHere 0 _ _ _ _
  refine Rn.step (pc' := 1) rfl rfl ?_
  refine Rn.getf (pc' := 4) rfl rfl rfl rfl rfl ?_
  refine Rn.iconst (v := 3) (pc' := 5) rfl (by decide) rfl ?_
  refine Rn.mald (k := 3) (pc' := 6) rfl rfl (rfl) (by omega) (by decide) rfl ?_
  refine Rn.iconst (v := 4) (pc' := 7) rfl (by decide) rfl ?_
  refine Rn.icmp_ne (pc1 := 17) (pc2 := 10) rfl rfl rfl (fun h7 => ?_) (fun h7 => ?_)
  · rw [if_neg (show ¬ q 3 = 4 by rw [← hA]; exact h7)]
    have hB6 : Fn < 4 := hv.n3 (show ¬ q 3 = 4 by rw [← hA]; exact h7)
    rw [hv.c3]
    unfold gL4
    refine Rn.step (pc' := 18) rfl rfl ?_
    refine Rn.vv (pc' := 21) rfl (by decide) (by omega) rfl rfl rfl (x_M_pass (n := n) (i := p) (by exact h.1.2.1) h4 (by omega) h8 hp) ?_
    rw [h.1.1]
    have hR0 : RL (upd v 8 (nI (leE T n p))) A T n (nxE T n p, q) := ⟨h.1.at (by exact rnE_le hp) (by show skE T n (leE T n p) = skE T n (tkE T n p); rw [hkd.2]), h.2⟩
    have hF0 : xFK v A (upd v 8 (nI (leE T n p))) A := (xFK.rfl v A).vv (by omega)
    refine Rn.iconst (v := 52) (pc' := 23) rfl (by decide) rfl ?_
    refine Rn.iconst (v := 2) (pc' := 24) rfl (by decide) rfl ?_
    refine Rn.step (pc' := 25) rfl rfl ?_
    refine Rn.getf (pc' := 28) rfl rfl rfl rfl rfl ?_
    refine Rn.iconst (v := 3) (pc' := 29) rfl (by decide) rfl ?_
    refine Rn.mald (k := 3) (pc' := 30) rfl rfl (rfl) (by omega) (by decide) rfl ?_
    refine Rn.imul (pc' := 31) rfl rfl ?_
    refine Rn.iadd (pc' := 32) rfl rfl ?_
    rw [show (52 : Int32) + 2 * A 56 3 = nI (52 + 2 * Fn) by rw [hA, hb3.1]; simp only [nI_lit, nI_add, pk_mul]]
    refine Rn.step (pc' := 33) rfl rfl ?_
    refine Rn.step (pc' := 34) rfl rfl ?_
    refine Rn.step (pc' := 35) rfl rfl ?_
    refine Rn.iconst (v := 0) (pc' := 36) rfl (by decide) rfl ?_
    refine Rn.iconst (v := 23) (pc' := 38) rfl (by decide) rfl ?_
    refine Rn.callV (pc' := 41) rfl (by decide) (by omega) rfl rfl rfl (x_cell (c := (52 + 2 * Fn)) (by omega) hR0 (by omega)) (fun r_ m_ hc_ => ?_)
    obtain ⟨v1, A1, rfl, hG1, hg1⟩ := hc_
    have hF1 := hF0.trans hG1
    cases hX1 : gNu T n 0 23 (52 + 2 * Fn) (nxE T n p, q) with
    | inl e =>
      rw [hX1] at hg1
      obtain ⟨rfl, h9⟩ := hg1
      refine Rn.ifc_eq (pc1 := 62) (pc2 := 44) rfl rfl rfl (fun h41 => ?_) (fun h41 => absurd (rfl) h41)
      refine Rn.iconst (v := 0) (pc' := 63) rfl (by decide) rfl ?_
      exact Rn.iret rfl (rfl) (gY.bad hF1 h9)
    | inr z1 =>
      rw [hX1] at hg1
      obtain ⟨rfl, hR1⟩ := hg1
      obtain ⟨kA1, nA1, hz1⟩ := gNu_r hX1
      have hA1 : A1 56 = z1.2 := hR1.2.2
      refine Rn.ifc_eq (pc1 := 62) (pc2 := 44) rfl rfl rfl (fun h41 => absurd h41 (fun z => absurd z (by decide))) (fun h41 => ?_)
      refine Rn.step (pc' := 45) rfl rfl ?_
      refine Rn.step (pc' := 46) rfl rfl ?_
      refine Rn.iconst (v := 1) (pc' := 47) rfl (by decide) rfl ?_
      refine Rn.iadd (pc' := 48) rfl rfl ?_
      refine Rn.step (pc' := 49) rfl rfl ?_
      refine Rn.getf (pc' := 52) rfl rfl rfl rfl rfl ?_
      refine Rn.step (pc' := 53) rfl rfl ?_
      refine Rn.mald (k := (52 + 2 * Fn)) (pc' := 54) rfl rfl (rfl) (by omega) (by decide) rfl ?_
      refine Rn.iconst (v := 23) (pc' := 56) rfl (by decide) rfl ?_
      refine Rn.callV (pc' := 59) rfl (by decide) (by omega) rfl rfl rfl (by rw [show nI (52 + 2 * Fn) + 1 = nI ((52 + 2 * Fn) + 1) from nI_add _ 1]; exact x_cell (c := (52 + 2 * Fn) + 1) (by omega) hR1 (by omega)) (fun r_ m_ hc_ => ?_)
      show Rn _ _ _ _ _ _ (gY m0 v dx A LA T n (gBx (gNu T n (z1.2 (52 + 2 * Fn)) 23 ((52 + 2 * Fn) + 1) z1) (gKo 3)))
      rw [hA1] at hc_
      obtain ⟨v2, A2, rfl, hG2, hg2⟩ := hc_
      have hF2 := hF1.trans hG2
      cases hX2 : gNu T n (z1.2 (52 + 2 * Fn)) 23 ((52 + 2 * Fn) + 1) z1 with
      | inl e =>
        rw [hX2] at hg2
        obtain ⟨rfl, h9⟩ := hg2
        refine Rn.ifc_ne (pc1 := 64) (pc2 := 62) rfl rfl rfl (fun h59 => absurd h59 (fun z => z rfl)) (fun h59 => ?_)
        refine Rn.iconst (v := 0) (pc' := 63) rfl (by decide) rfl ?_
        exact Rn.iret rfl (rfl) (gY.bad hF2 h9)
      | inr z2 =>
        rw [hX2] at hg2
        obtain ⟨rfl, hR2⟩ := hg2
        obtain ⟨kA2, nA2, hz2⟩ := gNu_r hX2
        have hA2 : A2 56 = z2.2 := hR2.2.2
        refine Rn.ifc_ne (pc1 := 64) (pc2 := 62) rfl rfl rfl (fun h59 => ?_) (fun h59 => absurd h59 (fun z => absurd z (by decide)))
        refine Rn.step (pc' := 65) rfl rfl ?_
        refine Rn.getf (pc' := 68) rfl rfl rfl rfl rfl ?_
        refine Rn.iconst (v := 3) (pc' := 69) rfl (by decide) rfl ?_
        refine Rn.step (pc' := 70) rfl rfl ?_
        refine Rn.mald (k := 3) (pc' := 71) rfl rfl (rfl) (by omega) (by decide) rfl ?_
        refine Rn.iconst (v := 1) (pc' := 72) rfl (by decide) rfl ?_
        refine Rn.iadd (pc' := 73) rfl rfl ?_
        refine Rn.mast (k := 3) (pc' := 74) rfl rfl (rfl) (by omega) (by decide) rfl ?_
        refine Rn.iconst (v := 1) (pc' := 75) rfl (by decide) rfl ?_
        exact Rn.iret rfl (rfl) (⟨_, _, rfl, hF2.rd _, rfl, hR2.1, hR2.2.1, by show upd (A2 56) 3 (A2 56 3 + 1) = upd z2.2 3 (z2.2 3 + 1); rw [hA2]⟩)
  · rw [if_pos (show q 3 = 4 by rw [← hA]; exact h7)]
    refine Rn.step (pc' := 11) rfl rfl ?_
    refine Rn.iconst (v := 4) (pc' := 12) rfl (by decide) rfl ?_
    refine Rn.step (pc' := 13) rfl rfl ?_
    refine Rn.vi (pc' := 16) rfl (by decide) (by omega) rfl rfl rfl (x_M_fails (k := 4) (p := p) (by exact h.2.1)) ?_
    exact Rn.iret rfl (rfl) (gY.bad (xFK.vv (xFK.rfl v A) (by omega)) ⟨rfl, by omega⟩)
theorem x_L_5 {d : Nat} {PP Bn Fn Wn : Nat} (hd : 3 ≤ d) (h : RL v A T n (p, q)) (h8 : v 8 = nI p) (hkd : kdE T n p = 1 ∧ tkE T n p = leE T n p) (hv : LV PP Bn Fn Wn q) : Cl d j_M_isWantHere [.ref 50, .int (nI p)] (MM m0 v dx A LA) (gY m0 v dx A LA T n (if q 4 = 10 then gF4 p else gL5 T n (60 + 4 * cN (q 4)) (nxE T n p, q))) := by
  have h4 := h.1.2.2.1
  have hp : p ≤ n := h.1.le
  have hA : A 56 = q := h.2.2
  have hb0 := hv.1
  have hb2 := hv.2.1
  have hb3 := hv.2.2.1
  have hb4 := hv.2.2.2.1
  show Rn d j_M_isWantHere 0 _ _ _ _
  refine Rn.step (pc' := 1) rfl rfl ?_
  refine Rn.getf (pc' := 4) rfl rfl rfl rfl rfl ?_
  refine Rn.iconst (v := 4) (pc' := 5) rfl (by decide) rfl ?_
  refine Rn.mald (k := 4) (pc' := 6) rfl rfl (rfl) (by omega) (by decide) rfl ?_
  refine Rn.iconst (v := 10) (pc' := 8) rfl (by decide) rfl ?_
  refine Rn.icmp_ne (pc1 := 18) (pc2 := 11) rfl rfl rfl (fun h8x => ?_) (fun h8x => ?_)
  · rw [if_neg (show ¬ q 4 = 10 by rw [← hA]; exact h8x)]
    have hB6 : Wn < 10 := hv.n4 (show ¬ q 4 = 10 by rw [← hA]; exact h8x)
    rw [hv.c4]
    unfold gL5
    refine Rn.step (pc' := 19) rfl rfl ?_
    refine Rn.vv (pc' := 22) rfl (by decide) (by omega) rfl rfl rfl (x_M_pass (n := n) (i := p) (by exact h.1.2.1) h4 (by omega) h8 hp) ?_
    rw [h.1.1]
    have hR0 : RL (upd v 8 (nI (leE T n p))) A T n (nxE T n p, q) := ⟨h.1.at (by exact rnE_le hp) (by show skE T n (leE T n p) = skE T n (tkE T n p); rw [hkd.2]), h.2⟩
    have hF0 : xFK v A (upd v 8 (nI (leE T n p))) A := (xFK.rfl v A).vv (by omega)
    refine Rn.iconst (v := 60) (pc' := 24) rfl (by decide) rfl ?_
    refine Rn.iconst (v := 4) (pc' := 25) rfl (by decide) rfl ?_
    refine Rn.step (pc' := 26) rfl rfl ?_
    refine Rn.getf (pc' := 29) rfl rfl rfl rfl rfl ?_
    refine Rn.iconst (v := 4) (pc' := 30) rfl (by decide) rfl ?_
    refine Rn.mald (k := 4) (pc' := 31) rfl rfl (rfl) (by omega) (by decide) rfl ?_
    refine Rn.imul (pc' := 32) rfl rfl ?_
    refine Rn.iadd (pc' := 33) rfl rfl ?_
    rw [show (60 : Int32) + 4 * A 56 4 = nI (60 + 4 * Wn) by rw [hA, hb4.1]; simp only [nI_lit, nI_add, pk_mul]]
    refine Rn.step (pc' := 34) rfl rfl ?_
    refine Rn.step (pc' := 35) rfl rfl ?_
    refine Rn.step (pc' := 36) rfl rfl ?_
    refine Rn.iconst (v := 0) (pc' := 37) rfl (by decide) rfl ?_
    refine Rn.step (pc' := 38) rfl rfl ?_
    refine Rn.getf (pc' := 41) rfl rfl rfl rfl rfl ?_
    refine Rn.iconst (v := 2) (pc' := 42) rfl (by decide) rfl ?_
    refine Rn.mald (k := 2) (pc' := 43) rfl rfl (rfl) (by omega) (by decide) rfl ?_
    refine Rn.iconst (v := 1) (pc' := 44) rfl (by decide) rfl ?_
    refine Rn.isub (pc' := 45) rfl rfl ?_
    rw [show A 56 2 - 1 = q 2 - 1 by rw [hA]]
    show Rn _ _ _ _ _ _ (gY m0 v dx A LA T n (gBx (gNu T n 0 (q 2 - 1) (60 + 4 * Wn) (nxE T n p, q)) (fun a => gBx (gNu T n 0 (a.2 0 - 1) ((60 + 4 * Wn) + 1) a) (fun b => gBx (gNu T n 0 23 ((60 + 4 * Wn) + 2) b) (fun c => gBx (gNu T n 1 50 ((60 + 4 * Wn) + 3) c) (gKo 4))))))
    refine Rn.callV (pc' := 48) rfl (by decide) (by omega) rfl rfl rfl (x_cell (c := (60 + 4 * Wn)) (by omega) hR0 (by omega)) (fun r_ m_ hc_ => ?_)
    obtain ⟨v1, A1, rfl, hG1, hg1⟩ := hc_
    have hF1 := hF0.trans hG1
    cases hX1 : gNu T n 0 (q 2 - 1) (60 + 4 * Wn) (nxE T n p, q) with
    | inl e =>
      rw [hX1] at hg1
      obtain ⟨rfl, h9⟩ := hg1
      refine Rn.ifc_eq (pc1 := 96) (pc2 := 51) rfl rfl rfl (fun h48 => ?_) (fun h48 => absurd (rfl) h48)
      refine Rn.iconst (v := 0) (pc' := 97) rfl (by decide) rfl ?_
      exact Rn.iret rfl (rfl) (gY.bad hF1 h9)
    | inr z1 =>
      rw [hX1] at hg1
      obtain ⟨rfl, hR1⟩ := hg1
      obtain ⟨kA1, nA1, hz1⟩ := gNu_r hX1
      have hA1 : A1 56 = z1.2 := hR1.2.2
      show Rn _ _ _ _ _ _ (gY m0 v dx A LA T n (gBx (gNu T n 0 (z1.2 0 - 1) ((60 + 4 * Wn) + 1) z1) (fun b => gBx (gNu T n 0 23 ((60 + 4 * Wn) + 2) b) (fun c => gBx (gNu T n 1 50 ((60 + 4 * Wn) + 3) c) (gKo 4)))))
      refine Rn.ifc_eq (pc1 := 96) (pc2 := 51) rfl rfl rfl (fun h48 => absurd h48 (fun z => absurd z (by decide))) (fun h48 => ?_)
      refine Rn.step (pc' := 52) rfl rfl ?_
      refine Rn.step (pc' := 53) rfl rfl ?_
      refine Rn.iconst (v := 1) (pc' := 54) rfl (by decide) rfl ?_
      refine Rn.iadd (pc' := 55) rfl rfl ?_
      refine Rn.iconst (v := 0) (pc' := 56) rfl (by decide) rfl ?_
      refine Rn.step (pc' := 57) rfl rfl ?_
      refine Rn.getf (pc' := 60) rfl rfl rfl rfl rfl ?_
      refine Rn.iconst (v := 0) (pc' := 61) rfl (by decide) rfl ?_
      refine Rn.mald (k := 0) (pc' := 62) rfl rfl (rfl) (by omega) (by decide) rfl ?_
      refine Rn.iconst (v := 1) (pc' := 63) rfl (by decide) rfl ?_
      refine Rn.isub (pc' := 64) rfl rfl ?_
      rw [show A1 56 0 - 1 = z1.2 0 - 1 by rw [hA1]]
      refine Rn.callV (pc' := 67) rfl (by decide) (by omega) rfl rfl rfl (by rw [show nI (60 + 4 * Wn) + 1 = nI ((60 + 4 * Wn) + 1) from nI_add _ 1]; exact x_cell (c := (60 + 4 * Wn) + 1) (by omega) hR1 (by omega)) (fun r_ m_ hc_ => ?_)
      obtain ⟨v2, A2, rfl, hG2, hg2⟩ := hc_
      have hF2 := hF1.trans hG2
      cases hX2 : gNu T n 0 (z1.2 0 - 1) ((60 + 4 * Wn) + 1) z1 with
      | inl e =>
        rw [hX2] at hg2
        obtain ⟨rfl, h9⟩ := hg2
        refine Rn.ifc_eq (pc1 := 96) (pc2 := 70) rfl rfl rfl (fun h67 => ?_) (fun h67 => absurd (rfl) h67)
        refine Rn.iconst (v := 0) (pc' := 97) rfl (by decide) rfl ?_
        exact Rn.iret rfl (rfl) (gY.bad hF2 h9)
      | inr z2 =>
        rw [hX2] at hg2
        obtain ⟨rfl, hR2⟩ := hg2
        obtain ⟨kA2, nA2, hz2⟩ := gNu_r hX2
        show Rn _ _ _ _ _ _ (gY m0 v dx A LA T n (gBx (gNu T n 0 23 ((60 + 4 * Wn) + 2) z2) (fun c => gBx (gNu T n 1 50 ((60 + 4 * Wn) + 3) c) (gKo 4))))
        refine Rn.ifc_eq (pc1 := 96) (pc2 := 70) rfl rfl rfl (fun h67 => absurd h67 (fun z => absurd z (by decide))) (fun h67 => ?_)
        refine Rn.step (pc' := 71) rfl rfl ?_
        refine Rn.step (pc' := 72) rfl rfl ?_
        refine Rn.iconst (v := 2) (pc' := 73) rfl (by decide) rfl ?_
        refine Rn.iadd (pc' := 74) rfl rfl ?_
        refine Rn.iconst (v := 0) (pc' := 75) rfl (by decide) rfl ?_
        refine Rn.iconst (v := 23) (pc' := 77) rfl (by decide) rfl ?_
        refine Rn.callV (pc' := 80) rfl (by decide) (by omega) rfl rfl rfl (by rw [show nI (60 + 4 * Wn) + 2 = nI ((60 + 4 * Wn) + 2) from nI_add _ 2]; exact x_cell (c := (60 + 4 * Wn) + 2) (by omega) hR2 (by omega)) (fun r_ m_ hc_ => ?_)
        obtain ⟨v3, A3, rfl, hG3, hg3⟩ := hc_
        have hF3 := hF2.trans hG3
        cases hX3 : gNu T n 0 23 ((60 + 4 * Wn) + 2) z2 with
        | inl e =>
          rw [hX3] at hg3
          obtain ⟨rfl, h9⟩ := hg3
          refine Rn.ifc_eq (pc1 := 96) (pc2 := 83) rfl rfl rfl (fun h80 => ?_) (fun h80 => absurd (rfl) h80)
          refine Rn.iconst (v := 0) (pc' := 97) rfl (by decide) rfl ?_
          exact Rn.iret rfl (rfl) (gY.bad hF3 h9)
        | inr z3 =>
          rw [hX3] at hg3
          obtain ⟨rfl, hR3⟩ := hg3
          obtain ⟨kA3, nA3, hz3⟩ := gNu_r hX3
          show Rn _ _ _ _ _ _ (gY m0 v dx A LA T n (gBx (gNu T n 1 50 ((60 + 4 * Wn) + 3) z3) (gKo 4)))
          refine Rn.ifc_eq (pc1 := 96) (pc2 := 83) rfl rfl rfl (fun h80 => absurd h80 (fun z => absurd z (by decide))) (fun h80 => ?_)
          refine Rn.step (pc' := 84) rfl rfl ?_
          refine Rn.step (pc' := 85) rfl rfl ?_
          refine Rn.iconst (v := 3) (pc' := 86) rfl (by decide) rfl ?_
          refine Rn.iadd (pc' := 87) rfl rfl ?_
          refine Rn.iconst (v := 1) (pc' := 88) rfl (by decide) rfl ?_
          refine Rn.iconst (v := 50) (pc' := 90) rfl (by decide) rfl ?_
          refine Rn.callV (pc' := 93) rfl (by decide) (by omega) rfl rfl rfl (by rw [show nI (60 + 4 * Wn) + 3 = nI ((60 + 4 * Wn) + 3) from nI_add _ 3]; exact x_cell (c := (60 + 4 * Wn) + 3) (by omega) hR3 (by omega)) (fun r_ m_ hc_ => ?_)
          obtain ⟨v4, A4, rfl, hG4, hg4⟩ := hc_
          have hF4 := hF3.trans hG4
          cases hX4 : gNu T n 1 50 ((60 + 4 * Wn) + 3) z3 with
          | inl e =>
            rw [hX4] at hg4
            obtain ⟨rfl, h9⟩ := hg4
            refine Rn.ifc_ne (pc1 := 98) (pc2 := 96) rfl rfl rfl (fun h93 => absurd h93 (fun z => z rfl)) (fun h93 => ?_)
            refine Rn.iconst (v := 0) (pc' := 97) rfl (by decide) rfl ?_
            exact Rn.iret rfl (rfl) (gY.bad hF4 h9)
          | inr z4 =>
            rw [hX4] at hg4
            obtain ⟨rfl, hR4⟩ := hg4
            obtain ⟨kA4, nA4, hz4⟩ := gNu_r hX4
            have hA4 : A4 56 = z4.2 := hR4.2.2
            refine Rn.ifc_ne (pc1 := 98) (pc2 := 96) rfl rfl rfl (fun h93 => ?_) (fun h93 => absurd h93 (fun z => absurd z (by decide)))
            refine Rn.step (pc' := 99) rfl rfl ?_
            refine Rn.getf (pc' := 102) rfl rfl rfl rfl rfl ?_
            refine Rn.iconst (v := 4) (pc' := 103) rfl (by decide) rfl ?_
            refine Rn.step (pc' := 104) rfl rfl ?_
            refine Rn.mald (k := 4) (pc' := 105) rfl rfl (rfl) (by omega) (by decide) rfl ?_
            refine Rn.iconst (v := 1) (pc' := 106) rfl (by decide) rfl ?_
            refine Rn.iadd (pc' := 107) rfl rfl ?_
            refine Rn.mast (k := 4) (pc' := 108) rfl rfl (rfl) (by omega) (by decide) rfl ?_
            refine Rn.iconst (v := 1) (pc' := 109) rfl (by decide) rfl ?_
            exact Rn.iret rfl (rfl) (⟨_, _, rfl, hF4.rd _, rfl, hR4.1, hR4.2.1, by show upd (A4 56) 4 (A4 56 4 + 1) = upd z4.2 4 (z4.2 4 + 1); rw [hA4]⟩)
  · rw [if_pos (show q 4 = 10 by rw [← hA]; exact h8x)]
    refine Rn.step (pc' := 12) rfl rfl ?_
    refine Rn.iconst (v := 4) (pc' := 13) rfl (by decide) rfl ?_
    refine Rn.step (pc' := 14) rfl rfl ?_
    refine Rn.vi (pc' := 17) rfl (by decide) (by omega) rfl rfl rfl (x_M_fails (k := 4) (p := p) (by exact h.2.1)) ?_
    exact Rn.iret rfl (rfl) (gY.bad (xFK.vv (xFK.rfl v A) (by omega)) ⟨rfl, by omega⟩)
end V8
end NK2
