/-! THE MODEL: rule(). -/
section NC2
variable {m0 : xM} {v : Nat → Int32} {dx : Int64} {A : Nat → Nat → Int32} {LA : Nat → Nat → Int64} {s : Nat → Int32}
section U2
variable {T : Nat → Int32} {n r : Nat} {t b : gS} {cl : List xCl4}
theorem fc_ne (x : Int32) : ¬ x &&& 255 = -1 := fun h => by
  have hm : (x &&& 255).toBitVec.toNat ≤ 255 := by
    rw [Int32.toBitVec_and, BitVec.toNat_and]
    exact Nat.and_le_right
  rw [h] at hm
  exact absurd hm (by decide)
theorem cu_end {p : Nat} : cuE T n p = -1 ↔ kdE T n p = 0 := by
  unfold cuE
  by_cases hp : p < n
  · rw [if_pos hp]
    refine ⟨fun z => absurd z (fc_ne _), fun z => ?_⟩
    have : ¬ kdE T n p = 0 := by
      unfold kdE
      rw [if_neg (by omega)]
      repeat' split
      all_goals omega
    exact absurd z this
  · rw [if_neg hp]
    exact ⟨fun _ => kd0 (by omega), fun _ => rfl⟩
theorem gW_l {z : gS × List xCl4} (h : gW T n t cl = .inr z) : z.2.length = cl.length + 1 := by
  unfold gW at h
  obtain ⟨a, _, e2⟩ := gBq_r h
  by_cases h3 : wix T a.1 (leE T n a.1) ws3 0 = 0
  · rw [if_pos h3] at e2
    obtain ⟨b, _, e4⟩ := gBq_r e2
    obtain rfl := Sum.inr.inj e4
    show (cl ++ [_]).length = _
    rw [List.length_append]
    rfl
  · rw [if_neg h3] at e2
    obtain rfl := Sum.inr.inj e2
    show (cl ++ [_]).length = _
    rw [List.length_append]
    rfl
def gPL (v1 : Nat → Int32) (A1 : Nat → Nat → Int32) (T : Nat → Int32) (n r : Nat) (o : Option Value) : gQ → Prop
  | .inl e => o = some (.int 0) ∧ badE v1 e
  | .inr z => o = some (.int 1) ∧ RM v1 A1 T n r z.1 ∧ A1 55 r = nI z.2.length ∧ ECl A1 r z.2 ∧ v1 14 = nI z.2.length
def gPP (m0 : xM) (v : Nat → Int32) (dx : Int64) (A : Nat → Nat → Int32) (LA : Nat → Nat → Int64) (T : Nat → Int32) (n r : Nat) (x : gQ) (o : Option Value) (m2 : xM) : Prop := ∃ v1 A1, m2 = MM m0 v1 dx A1 LA ∧ xFD v A v1 A1 r ∧ gPL v1 A1 T n r o x
theorem x_clause {d : Nat} (hd : 10 ≤ d) (h : RM v A T n r t) (h55 : A 55 r = nI cl.length) (h14 : v 14 = nI cl.length) (hc : cl.length ≤ 12) (hE : ECl A r cl) (hl : t.2.2.length ≤ t.1) : Cl d j_M_clauseHere [.ref 50] (MM m0 v dx A LA) (gPP m0 v dx A LA T n r (gCl T n t cl)) := by
  have h4 := h.1.2.2.1
  have hp := h.1.le
  have h6 := h.2.2.2.1
  show Rn d j_M_clauseHere 0 _ _ _ _
  refine Rn.step (pc' := 1) rfl rfl ?_
  refine Rn.vi (pc' := 4) rfl (by decide) (by omega) rfl rfl rfl (x_see h.1) ?_
  refine Rn.step (pc' := 5) rfl rfl ?_
  refine Rn.step (pc' := 6) rfl rfl ?_
  refine Rn.getf (pc' := 9) rfl rfl rfl rfl rfl ?_
  refine Rn.step (pc' := 10) rfl rfl ?_
  refine Rn.step (pc' := 11) rfl rfl ?_
  refine Rn.getf (pc' := 14) rfl rfl rfl rfl rfl ?_
  refine Rn.iconst (v := 6) (pc' := 16) rfl (by decide) rfl ?_
  refine Rn.icmp_ne (pc1 := 23) (pc2 := 19) rfl rfl rfl (fun h16 => ?_) (fun h16 => absurd h16 (fun z => absurd ((nI_eq (a := r) (b := 6) (by omega) (by omega)).mp (by rw [← h.2.2.1]; exact z)) (by omega)))
  refine Rn.iconst (v := 0) (pc' := 24) rfl (by decide) rfl ?_
  refine Rn.step (pc' := 25) rfl rfl ?_
  refine Rn.step (pc' := 26) rfl rfl ?_
  refine Rn.ifc_eq (pc1 := 39) (pc2 := 29) rfl rfl rfl (fun h26 => ?_) (fun h26 => absurd (rfl) h26)
  refine Rn.step (pc' := 40) rfl rfl ?_
  refine Rn.ldc2 (v := 2002873451) (pc' := 43) rfl (by decide) rfl ?_
  refine Rn.vi (pc' := 46) rfl (by decide) (by omega) rfl rfl rfl (x_isWord (x := [119, 97, 108, 107]) (by omega) h.1.here (by decide) (by decide)) ?_
  rw [updO]
  refine Rn.ifp_ne (pc1 := 56) (pc2 := 49) rfl rfl rfl (fun h46 => ?_) (fun h46 => ?_)
  · have hw := walk_w.mp h46
    refine Rn.step (pc' := 57) rfl rfl ?_
    refine Rn.getf (pc' := 60) rfl rfl rfl rfl rfl ?_
    refine Rn.step (pc' := 61) rfl rfl ?_
    refine Rn.ifc_eq (pc1 := 69) (pc2 := 64) rfl rfl rfl (fun h61 => ?_) (fun h61 => absurd (rfl) h61)
    refine Rn.iconst (v := 12) (pc' := 71) rfl (by decide) rfl ?_
    refine Rn.icmp_ne (pc1 := 81) (pc2 := 74) rfl rfl rfl (fun h71 => ?_) (fun h71 => ?_)
    · have hc12 : cl.length < 12 := by
        have : ¬ cl.length = 12 := fun z => h71 (by show v 14 = 12; rw [h14, z]; rfl)
        omega
      rw [show gCl T n t cl = gW T n t cl from (if_neg hw).trans (if_neg (by omega))]
      refine Rn.step (pc' := 82) rfl rfl ?_
      refine Rn.step (pc' := 83) rfl rfl ?_
      refine Rn.getf (pc' := 86) rfl rfl rfl rfl rfl ?_
      refine Rn.iconst (v := 1) (pc' := 87) rfl (by decide) rfl ?_
      refine Rn.iadd (pc' := 88) rfl rfl ?_
      rw [show upd v 8 (nI t.1) 14 + 1 = nI (cl.length + 1) by show v 14 + 1 = _; rw [h14, nI_lit, nI_add]]
      refine Rn.mput (pc' := 91) rfl rfl rfl rfl (by decide) rfl ?_
      refine Rn.step (pc' := 92) rfl rfl ?_
      refine Rn.ifc_eq (pc1 := 103) (pc2 := 95) rfl rfl rfl (fun h92 => ?_) (fun h92 => absurd (rfl) h92)
      refine Rn.step (pc' := 104) rfl rfl ?_
      refine Rn.callV (pc' := 107) rfl (by decide) (by omega) rfl rfl rfl (x_walkHere (cl := cl) (by omega) (RM.vv h.here (by omega)) rfl h46 h55 hc12 hE hl) (fun r_ m_ hc_ => ?_)
      obtain ⟨v1, A1, rfl, hF1, hv14, hg⟩ := hc_
      cases hX : gW T n t cl with
      | inl e =>
        rw [hX] at hg
        obtain ⟨rfl, h9⟩ := hg
        refine Rn.iret rfl rfl ?_
        exact ⟨_, _, rfl, (((xFD.rfl v A r).vv (by omega)).vv (by omega)).trans hF1, rfl, h9⟩
      | inr z =>
        rw [hX] at hg
        obtain ⟨rfl, g1, g2, g3⟩ := hg
        refine Rn.iret rfl rfl ?_
        refine ⟨_, _, rfl, (((xFD.rfl v A r).vv (by omega)).vv (by omega)).trans hF1, rfl, g1, g2, g3, ?_⟩
        rw [hv14]
        show nI (cl.length + 1) = nI z.2.length
        rw [gW_l hX]
    · rw [show gCl T n t cl = .inl (1 + 8 * t.1 + 4) from (if_neg hw).trans (if_pos ((nI_eq (a := cl.length) (b := 12) (by omega) (by omega)).mp (by rw [← h14]; exact h71)))]
      refine Rn.step (pc' := 75) rfl rfl ?_
      refine Rn.iconst (v := 4) (pc' := 76) rfl (by decide) rfl ?_
      refine Rn.step (pc' := 77) rfl rfl ?_
      refine Rn.vi (pc' := 80) rfl (by decide) (by omega) rfl rfl rfl (x_M_fails (k := 4) (p := t.1) (by exact h.2.1)) ?_
      exact Rn.iret rfl (rfl) (⟨_, _, rfl, ((xFD.rfl v A r).vv (by omega)).vv (by omega), rfl, rfl, by omega⟩)
  · rw [show gCl T n t cl = .inl (1 + 8 * t.1 + 0) from if_pos (Classical.byContradiction fun z => h46 (walk_w.mpr z))]
    refine Rn.step (pc' := 50) rfl rfl ?_
    refine Rn.iconst (v := 0) (pc' := 51) rfl (by decide) rfl ?_
    refine Rn.step (pc' := 52) rfl rfl ?_
    refine Rn.vi (pc' := 55) rfl (by decide) (by omega) rfl rfl rfl (x_M_fails (k := 0) (p := t.1) (by exact h.2.1)) ?_
    exact Rn.iret rfl (rfl) (⟨_, _, rfl, ((xFD.rfl v A r).vv (by omega)).vv (by omega), rfl, rfl, by omega⟩)
theorem gCl_b (hT : ∀ i, -128 ≤ T i ∧ T i ≤ 127) {z : gS × List xCl4} (hp : t.1 ≤ n) (hl : t.2.2.length ≤ t.1) (h : gCl T n t cl = .inr z) : z.1.1 ≤ n ∧ z.1.2.2.length ≤ z.1.1 ∧ z.2.length = cl.length + 1 := by
  unfold gCl at h
  by_cases hw : wix T t.1 (leE T n t.1) ws1 0 < 0
  · rw [if_pos hw] at h
    exact nomatch h
  · rw [if_neg hw] at h
    by_cases h12 : cl.length = 12
    · rw [if_pos h12] at h
      exact nomatch h
    · rw [if_neg h12] at h
      have hzl := gW_l h
      refine ⟨?_, ?_, hzl⟩
      all_goals
        unfold gW at h
        have k0 : ¬ kdE T n t.1 = 0 := wx_kd hT ws1 (by decide) (fun z => hw (by rw [z]; decide))
        have hx := nx_gt hT hp k0
        have q1 : (gAd T n t).1 = nxE T n t.1 := rfl
        have q2 : (gAd T n t).2.2.length = t.2.2.length := rfl
        obtain ⟨a, e1, e2⟩ := gBq_r h
        have b1 := gSu_b hT (show (gAd T n t).1 ≤ n from nx_le hp) e1
        by_cases h3 : wix T a.1 (leE T n a.1) ws3 0 = 0
        · rw [if_pos h3] at e2
          have k3 : ¬ kdE T n a.1 = 0 := wx_kd hT ws3 (by decide) (fun z => by rw [h3] at z; exact absurd z (by decide))
          have hx3 := nx_gt hT b1.2.1 k3
          have q3 : (gAd T n a).1 = nxE T n a.1 := rfl
          have q4 : (gAd T n a).2.2.length = a.2.2.length := rfl
          obtain ⟨b, e3, e4⟩ := gBq_r e2
          have b2 := gTs_b hT (gFa_b hT 10) (show (gAd T n a).1 ≤ n from nx_le b1.2.1) e3
          unfold gB at b2
          obtain rfl := Sum.inr.inj e4
          dsimp only
          omega
        · rw [if_neg h3] at e2
          obtain rfl := Sum.inr.inj e2
          dsimp only
          omega
/-- what the model keeps of a text that it read -/
def gRK (v1 : Nat → Int32) (A1 : Nat → Nat → Int32) (r : Nat) (o : Option Value) : gQ → Prop
  | .inl e => o = some (.int 0) ∧ badE v1 e
  | .inr z => o = some (.int 1) ∧ A1 53 r = nI z.1.2.2.length ∧ (∀ i, i < z.1.2.2.length → A1 52 (400 * r + i) = nI (tkN (z.1.2.2.getD i (0, 0)))) ∧ A1 55 r = nI z.2.length ∧ ECl A1 r z.2
def gRP (m0 : xM) (v : Nat → Int32) (dx : Int64) (A : Nat → Nat → Int32) (LA : Nat → Nat → Int64) (r : Nat) (x : gQ) (o : Option Value) (m2 : xM) : Prop := ∃ v1 A1, m2 = MM m0 v1 dx A1 LA ∧ xFD v A v1 A1 r ∧ v1 1 = 0 ∧ gRK v1 A1 r o x
theorem gRP.mono {v1 : Nat → Int32} {A1 : Nat → Nat → Int32} {x : gQ} {o : Option Value} {m2 : xM} (h : gRP m0 v1 dx A1 LA r x o m2) (hc : xFD v A v1 A1 r) : gRP m0 v dx A LA r x o m2 := by
  obtain ⟨v2, A2, e, c, g⟩ := h
  exact ⟨v2, A2, e, hc.trans c, g⟩
theorem l_X_bad {d e : Nat} (he : badE v e) : Rn d j_M_readsAll 35 [.ref 50, .int 0] [] (MM m0 v dx A LA) (gRP m0 v dx A LA r (.inl e)) := by
  have he1 := he.2
  refine Rn.step (pc' := 36) rfl rfl ?_
  refine Rn.ifc_eq (pc1 := 66) (pc2 := 39) rfl rfl rfl (fun h36 => ?_) (fun h36 => absurd (rfl) h36)
  refine Rn.step (pc' := 67) rfl rfl ?_
  refine Rn.ifc_eq (pc1 := 88) (pc2 := 70) rfl rfl rfl (fun h67 => ?_) (fun h67 => absurd (rfl) h67)
  refine Rn.step (pc' := 89) rfl rfl ?_
  refine Rn.iconst (v := 0) (pc' := 90) rfl (by decide) rfl ?_
  refine Rn.mput (pc' := 93) rfl rfl rfl rfl (by decide) rfl ?_
  refine Rn.step (pc' := 94) rfl rfl ?_
  refine Rn.getf (pc' := 97) rfl rfl rfl rfl rfl ?_
  refine Rn.ifc_ne (pc1 := 104) (pc2 := 100) rfl rfl rfl (fun h97 => ?_) (fun h97 => absurd h97 (fun z => absurd ((nI_eq (a := e) (b := 0) (by omega) (by omega)).mp (by rw [← he.1]; exact z)) (by omega)))
  refine Rn.iconst (v := 0) (pc' := 105) rfl (by decide) rfl ?_
  exact Rn.iret rfl (rfl) (⟨_, _, rfl, (xFD.rfl v A r).vv (by omega), rfl, rfl, he⟩)
theorem gCl_12 {z : gS × List xCl4} (h : gCl T n t cl = .inr z) (hc : cl.length ≤ 12 := by assumption) : z.2.length ≤ 12 := by
  unfold gCl at h
  by_cases hw : wix T t.1 (leE T n t.1) ws1 0 < 0
  · rw [if_pos hw] at h
    exact nomatch h
  · rw [if_neg hw] at h
    by_cases h12 : cl.length = 12
    · rw [if_pos h12] at h
      exact nomatch h
    · rw [if_neg h12] at h
      have hzl := gW_l h
      omega
theorem l_X_rd {d : Nat} (hd : 11 ≤ d) (f : Nat) (v : Nat → Int32) (A : Nat → Nat → Int32) (b : gS) (cl : List xCl4) (h : RM v A T n r b) (h55 : A 55 r = nI cl.length) (h14 : v 14 = nI cl.length) (hc : cl.length ≤ 12) (hE : ECl A r cl) (hf : f + cl.length = 13) (hl : b.2.2.length ≤ b.1) : Rn d j_M_readsAll 35 [.ref 50, .int 1] [] (MM m0 v dx A LA) (gRP m0 v dx A LA r (gEd T n (gRd T n f) b cl)) := by
    have h4 := h.1.2.2.1
    have hp := h.1.le
    have h6 := h.2.2.2.1
    refine Rn.step (pc' := 36) rfl rfl ?_
    refine Rn.ifc_eq (pc1 := 66) (pc2 := 39) rfl rfl rfl (fun h36 => absurd h36 (fun z => absurd z (by decide))) (fun h36 => ?_)
    refine Rn.step (pc' := 40) rfl rfl ?_
    refine Rn.vi (pc' := 43) rfl (by decide) (by omega) rfl rfl rfl (x_see h.1) ?_
    refine Rn.iconst (v := 59) (pc' := 45) rfl (by decide) rfl ?_
    refine Rn.icmp_ne (pc1 := 66) (pc2 := 48) rfl rfl rfl (fun h45 => ?_) (fun h45 => ?_)
    · have hsg : ¬ sgE T n b.1 59 := fun z => h45 ((cu_sg (by decide) (by decide) (by decide) (by decide) (by decide) (by decide) (by decide)).mpr z)
      refine Rn.step (pc' := 67) rfl rfl ?_
      refine Rn.ifc_eq (pc1 := 88) (pc2 := 70) rfl rfl rfl (fun h67 => absurd h67 (fun z => absurd z (by decide))) (fun h67 => ?_)
      refine Rn.step (pc' := 71) rfl rfl ?_
      refine Rn.vi (pc' := 74) rfl (by decide) (by omega) rfl rfl rfl (x_see h.1.here) ?_
      rw [updO]
      refine Rn.iconst (v := (-1)) (pc' := 75) rfl (by decide) rfl ?_
      refine Rn.icmp_eq (pc1 := 88) (pc2 := 78) rfl rfl rfl (fun h75 => ?_) (fun h75 => ?_)
      · rw [show gEd T n (gRd T n f) b cl = .inr (b, cl) from (if_neg hsg).trans (if_pos (cu_end.mp h75))]
        refine Rn.step (pc' := 89) rfl rfl ?_
        refine Rn.iconst (v := 0) (pc' := 90) rfl (by decide) rfl ?_
        refine Rn.mput (pc' := 93) rfl rfl rfl rfl (by decide) rfl ?_
        refine Rn.step (pc' := 94) rfl rfl ?_
        refine Rn.getf (pc' := 97) rfl rfl rfl rfl rfl ?_
        refine Rn.ifc_ne (pc1 := 104) (pc2 := 100) rfl rfl rfl (fun h97 => absurd h97 (fun z => z (by exact h.2.1))) (fun h97 => ?_)
        refine Rn.iconst (v := 1) (pc' := 101) rfl (by decide) rfl ?_
        refine Rn.step (pc' := 105) rfl rfl ?_
        exact Rn.iret rfl (rfl) (⟨_, _, rfl, ((xFD.rfl v A r).vv (by omega)).vv (by omega), rfl, rfl, h.2.2.2.2.2.2.1, h.2.2.2.2.2.2.2, h55, hE⟩)
      · rw [show gEd T n (gRd T n f) b cl = .inl (1 + 8 * b.1 + 0) from (if_neg hsg).trans (if_neg (fun z => h75 (cu_end.mpr z)))]
        refine Rn.step (pc' := 79) rfl rfl ?_
        refine Rn.iconst (v := 0) (pc' := 80) rfl (by decide) rfl ?_
        refine Rn.step (pc' := 81) rfl rfl ?_
        refine Rn.getf (pc' := 84) rfl rfl rfl rfl rfl ?_
        refine Rn.vi (pc' := 87) rfl (by decide) (by omega) rfl rfl rfl (x_M_fails (k := 0) (p := b.1) (by exact h.2.1)) ?_
        refine Rn.step (pc' := 88) rfl rfl ?_
        skip
        refine Rn.step (pc' := 89) rfl rfl ?_
        refine Rn.iconst (v := 0) (pc' := 90) rfl (by decide) rfl ?_
        refine Rn.mput (pc' := 93) rfl rfl rfl rfl (by decide) rfl ?_
        refine Rn.step (pc' := 94) rfl rfl ?_
        refine Rn.getf (pc' := 97) rfl rfl rfl rfl rfl ?_
        refine Rn.ifc_ne (pc1 := 104) (pc2 := 100) rfl rfl rfl (fun h97 => ?_) (fun h97 => absurd h97 (fun z => absurd ((nI_eq (a := 1 + 8 * b.1 + 0) (b := 0) (by omega) (by omega)).mp z) (by omega)))
        refine Rn.iconst (v := 0) (pc' := 105) rfl (by decide) rfl ?_
        exact Rn.iret rfl (rfl) (⟨_, _, rfl, (((xFD.rfl v A r).vv (by omega)).vv (by omega)).vv (by omega), rfl, rfl, rfl, by omega⟩)
    · have hsg : sgE T n b.1 59 := (cu_sg (by decide) (by decide) (by decide) (by decide) (by decide) (by decide) (by decide)).mp h45
      obtain ⟨hq1, hq2, hq3⟩ := sg_tk (T := T) (n := n) (p := b.1) (c := 59) h.1.2.2.2.1 (by decide) (by decide) (by decide) (by decide) (by decide) (by decide) h45 (by decide)
      have hx : b.1 < nxE T n b.1 := by
        have : b.1 + 1 ≤ skE T n (tkE T n b.1) := by rw [hq3]; exact rnE_ge
        exact this
      rw [show gEd T n (gRd T n f) b cl = gRd T n f (gAd T n b) cl from if_pos hsg]
      refine Rn.step (pc' := 49) rfl rfl ?_
      refine Rn.step (pc' := 50) rfl rfl ?_
      refine Rn.getf (pc' := 53) rfl rfl rfl rfl rfl ?_
      refine Rn.iconst (v := 1) (pc' := 54) rfl (by decide) rfl ?_
      refine Rn.iadd (pc' := 55) rfl rfl ?_
      refine Rn.mput (pc' := 58) rfl rfl rfl rfl (by decide) rfl ?_
      rw [updO, show upd v 8 (nI b.1) 8 + 1 = nI (b.1 + 1) from nI_add _ 1]
      have hR2 : RM (upd v 8 (nI (b.1 + 1))) A T n r (gAd T n b) := h.at (by omega) (by show skE T n (b.1 + 1) = skE T n (tkE T n b.1); rw [hq3])
      refine Rn.step (pc' := 59) rfl rfl ?_
      refine Rn.callV (pc' := 62) rfl (by decide) (by omega) rfl rfl rfl (x_clause (t := gAd T n b) (cl := cl) (by omega) hR2 h55 h14 hc hE (by show b.2.2.length ≤ nxE T n b.1; omega)) (fun r_ m_ hc_ => ?_)
      obtain ⟨v1, A1, rfl, hF1, hg⟩ := hc_
      obtain ⟨f1, rfl⟩ : ∃ f1, f = f1 + 1 := ⟨f - 1, by omega⟩
      rw [gRd_c]
      cases hX : gCl T n (gAd T n b) cl with
      | inl e =>
        rw [hX] at hg
        obtain ⟨rfl, h9⟩ := hg
        refine Rn.step (pc' := 63) rfl rfl ?_
        refine Rn.step (pc' := 35) rfl rfl ?_
        exact Rn.conseq (l_X_bad h9) (fun r_ m_ hg => hg.mono (((xFD.rfl v A r).vv (by omega)).trans hF1))
      | inr z =>
        rw [hX] at hg
        obtain ⟨rfl, g1, g2, g3, g4⟩ := hg
        have hb := gCl_b (t := gAd T n b) h.1.2.2.2.1 (nx_le hp) (show b.2.2.length ≤ nxE T n b.1 by omega) hX
        refine Rn.step (pc' := 63) rfl rfl ?_
        refine Rn.step (pc' := 35) rfl rfl ?_
        have hz12 := gCl_12 hX
        exact Rn.conseq (l_X_rd hd f1 _ _ z.1 z.2 g1 g2 g4 hz12 g3 (by omega) hb.2.1) (fun r_ m_ hg => hg.mono (((xFD.rfl v A r).vv (by omega)).trans hF1))
termination_by f
theorem x_readsRule {d : Nat} (hd : 11 ≤ d) (h51 : A 51 = T) (h1 : v 1 = nI n) (h4 : n ≤ 400) (hT : ∀ i, -128 ≤ T i ∧ T i ≤ 127) (h11 : v 11 = nI r) (h6 : r < 6) (h55 : A 55 r = 0) : Cl d j_M_readsAll [.ref 50] (MM m0 v dx A LA) (gRP m0 v dx A LA r (gRd T n 13 (skE T n 0, 0, []) [])) := by
  show Rn d j_M_readsAll 0 _ _ _ _
  refine Rn.step (pc' := 1) rfl rfl ?_
  refine Rn.getf (pc' := 4) rfl rfl rfl rfl rfl ?_
  refine Rn.step (pc' := 5) rfl rfl ?_
  refine Rn.getf (pc' := 8) rfl rfl rfl rfl rfl ?_
  refine Rn.iconst (v := 0) (pc' := 9) rfl (by decide) rfl ?_
  refine Rn.mast (k := r) (pc' := 10) rfl rfl (h11) (by omega) (by decide) rfl ?_
  refine Rn.step (pc' := 11) rfl rfl ?_
  refine Rn.iconst (v := 0) (pc' := 12) rfl (by decide) rfl ?_
  refine Rn.mput (pc' := 15) rfl rfl rfl rfl (by decide) rfl ?_
  refine Rn.step (pc' := 16) rfl rfl ?_
  refine Rn.iconst (v := 0) (pc' := 17) rfl (by decide) rfl ?_
  refine Rn.mput (pc' := 20) rfl rfl rfl rfl (by decide) rfl ?_
  refine Rn.step (pc' := 21) rfl rfl ?_
  refine Rn.iconst (v := 0) (pc' := 22) rfl (by decide) rfl ?_
  refine Rn.mput (pc' := 25) rfl rfl rfl rfl (by decide) rfl ?_
  refine Rn.step (pc' := 26) rfl rfl ?_
  refine Rn.iconst (v := 0) (pc' := 27) rfl (by decide) rfl ?_
  refine Rn.mput (pc' := 30) rfl rfl rfl rfl (by decide) rfl ?_
  have hR : RM (upd (upd (upd (upd v 14 0) 8 0) 9 0) 12 0) (va_up A 53 (upd (A 53) r 0)) T n r (skE T n 0, 0, []) := ⟨⟨h51, h1, h4, hT, 0, rfl, Nat.zero_le _, rfl⟩, rfl, h11, h6, rfl, Nat.zero_le _, (if_pos rfl : upd (A 53) r 0 r = 0), fun i hi => absurd hi (Nat.not_lt_zero _)⟩
  have hF00 : xFD v A v (va_up A 53 (upd (A 53) r 0)) r := ⟨fun _ _ _ _ _ _ _ _ _ => rfl, fun k _ b _ _ _ => up_ne _ _ b, fun _ _ => rfl, fun k hk => if_neg hk, fun _ _ => rfl, fun _ _ => rfl⟩
  have hF0 : xFD v A (upd (upd (upd (upd v 14 0) 8 0) 9 0) 12 0) (va_up A 53 (upd (A 53) r 0)) r := (((hF00.vv (by omega)).vv (by omega)).vv (by omega)).vv (by omega)
  refine Rn.step (pc' := 31) rfl rfl ?_
  refine Rn.callV (pc' := 34) rfl (by decide) (by omega) rfl rfl rfl (x_clause (t := (skE T n 0, 0, [])) (cl := []) (by omega) hR h55 rfl (Nat.zero_le _) (fun c q hq => by cases hq) (Nat.zero_le _)) (fun r_ m_ hc_ => ?_)
  obtain ⟨v1, A1, rfl, hF1, hg⟩ := hc_
  rw [gRd_c]
  cases hX : gCl T n (skE T n 0, 0, []) [] with
  | inl e =>
    rw [hX] at hg
    obtain ⟨rfl, h9⟩ := hg
    refine Rn.step (pc' := 35) rfl rfl ?_
    exact Rn.conseq (l_X_bad h9) (fun r_ m_ hg => hg.mono (hF0.trans hF1))
  | inr z =>
    rw [hX] at hg
    obtain ⟨rfl, g1, g2, g3, g4⟩ := hg
    have hb := gCl_b (t := (skE T n 0, 0, [])) hT (skE_le (Nat.zero_le _)) (Nat.zero_le _) hX
    refine Rn.step (pc' := 35) rfl rfl ?_
    have hl0 : ([] : List xCl4).length = 0 := rfl
    exact Rn.conseq (l_X_rd hd 12 _ _ z.1 z.2 g1 g2 g4 (by omega) g3 (by omega) hb.2.1) (fun r_ m_ hg => hg.mono (hF0.trans hF1))
/-- what rule() answers and leaves -/
def gRM (m0 : xM) (v : Nat → Int32) (dx : Int64) (A : Nat → Nat → Int32) (LA : Nat → Nat → Int64) (r : Nat) (o : Option Value) (m2 : xM) (x : gQ) : Prop := ∃ v1 A1, m2 = MM m0 v1 dx A1 LA ∧ xFD (upd v 11 (nI r)) (va_up A 55 (upd (A 55) r 0)) (upd v1 2 (v 2)) A1 r ∧ v1 1 = 0 ∧ match x with
  | .inl e => o = some (.int (-2 - nI e)) ∧ v1 2 = nI r
  | .inr z => o = some (.int (nI r)) ∧ v1 2 = nI (r + 1) ∧ (∀ i, i < z.1.2.2.length → A1 52 (400 * r + i) = nI (tkN (z.1.2.2.getD i (0, 0)))) ∧ A1 55 r = nI z.2.length ∧ ECl A1 r z.2
theorem x_rule {d : Nat} (hd : 12 ≤ d) (h51 : A 51 = T) (h1 : v 1 = nI n) (h4 : n ≤ 400) (hT : ∀ i, -128 ≤ T i ∧ T i ≤ 127) (hr : v 2 = nI r) (h6 : r ≤ 6) : Cl d j_M_rule [.ref 50] (MM m0 v dx A LA) (fun o m2 => (¬ r < 6 → o = some (.int (-1)) ∧ m2 = (MM m0 v dx A LA)) ∧ (r < 6 → gRM m0 v dx A LA r o m2 (gRd T n 13 (skE T n 0, 0, []) []))) := by
  by_cases hr6 : r < 6
  rotate_left
  · show Rn d j_M_rule 0 _ _ _ _
    refine Rn.step (pc' := 1) rfl rfl ?_
    refine Rn.getf (pc' := 4) rfl rfl rfl rfl rfl ?_
    refine Rn.iconst (v := 6) (pc' := 6) rfl (by decide) rfl ?_
    refine Rn.icmp_ne (pc1 := 11) (pc2 := 9) rfl rfl rfl (fun h => absurd (show v 2 = 6 by rw [hr, show r = 6 by omega]; rfl) h) (fun h => ?_)
    refine Rn.iconst (v := (-1)) (pc' := 10) rfl (by decide) rfl ?_
    exact Rn.iret rfl rfl ⟨fun _ => ⟨rfl, rfl⟩, fun z => absurd z hr6⟩
  refine Cl.conseq (P1 := fun o m2 => gRM m0 v dx A LA r o m2 (gRd T n 13 (skE T n 0, 0, []) [])) ?_ (fun o m2 h => ⟨fun z => absurd hr6 z, fun _ => h⟩)
  show Rn d j_M_rule 0 _ _ _ _
  refine Rn.step (pc' := 1) rfl rfl ?_
  refine Rn.getf (pc' := 4) rfl rfl rfl rfl rfl ?_
  refine Rn.iconst (v := 6) (pc' := 6) rfl (by decide) rfl ?_
  refine Rn.icmp_ne (pc1 := 11) (pc2 := 9) rfl rfl rfl (fun h => ?_) (fun h => absurd ((nI_eq (a := r) (b := 6) (by omega) (by omega)).mp (by rw [← hr]; exact h)) (by omega))
  refine Rn.step (pc' := 12) rfl rfl ?_
  refine Rn.step (pc' := 13) rfl rfl ?_
  refine Rn.getf (pc' := 16) rfl rfl rfl rfl rfl ?_
  rw [hr]
  refine Rn.mput (pc' := 19) rfl rfl rfl rfl (by decide) rfl ?_
  refine Rn.step (pc' := 20) rfl rfl ?_
  refine Rn.getf (pc' := 23) rfl rfl rfl rfl rfl ?_
  refine Rn.step (pc' := 24) rfl rfl ?_
  refine Rn.getf (pc' := 27) rfl rfl rfl rfl rfl ?_
  refine Rn.iconst (v := 0) (pc' := 28) rfl (by decide) rfl ?_
  refine Rn.mast (k := r) (pc' := 29) rfl rfl rfl (by omega) (by decide) rfl ?_
  refine Rn.step (pc' := 30) rfl rfl ?_
  refine Rn.callV (pc' := 33) rfl (by decide) (by omega) rfl rfl rfl (x_readsRule (r := r) (by omega) (by exact h51) (by exact h1) h4 hT (by rfl) hr6 (if_pos rfl)) (fun r_ m_ hc_ => ?_)
  obtain ⟨v1, A1, rfl, hF1, hv1, hg⟩ := hc_
  have e2 : v1 2 = nI r := (hF1.1 2 (by decide) (by decide) (by decide) (by decide) (by decide) (by decide) (by decide) (by decide)).trans hr
  have hu : xFD (upd v 11 (nI r)) (va_up A 55 (upd (A 55) r 0)) (upd v1 2 (v 2)) A1 r := by
    rw [hr, updI e2]
    exact hF1
  cases hX : gRd T n 13 (skE T n 0, 0, []) [] with
  | inl e =>
    rw [hX] at hg
    obtain ⟨rfl, h9⟩ := hg
    refine Rn.ifc_ne (pc1 := 44) (pc2 := 36) rfl rfl rfl (fun h36 => absurd rfl h36) (fun h36 => ?_)
    refine Rn.iconst (v := (-2)) (pc' := 38) rfl (by decide) rfl ?_
    refine Rn.step (pc' := 39) rfl rfl ?_
    refine Rn.getf (pc' := 42) rfl rfl rfl rfl rfl ?_
    refine Rn.isub (pc' := 43) rfl rfl ?_
    rw [h9.1]
    exact Rn.iret rfl rfl ⟨v1, A1, rfl, hu, hv1, rfl, e2⟩
  | inr z =>
    rw [hX] at hg
    obtain ⟨rfl, g1, g2, g3, g4⟩ := hg
    refine Rn.ifc_ne (pc1 := 44) (pc2 := 36) rfl rfl rfl (fun h36 => ?_) (fun h36 => absurd h36 (by decide))
    refine Rn.step (pc' := 45) rfl rfl ?_
    refine Rn.step (pc' := 46) rfl rfl ?_
    refine Rn.getf (pc' := 49) rfl rfl rfl rfl rfl ?_
    refine Rn.iconst (v := 1) (pc' := 50) rfl (by decide) rfl ?_
    refine Rn.iadd (pc' := 51) rfl rfl ?_
    rw [show v1 2 + 1 = nI (r + 1) by rw [e2, nI_lit, nI_add]]
    refine Rn.mput (pc' := 54) rfl rfl rfl rfl (by decide) rfl ?_
    refine Rn.step (pc' := 55) rfl rfl ?_
    refine Rn.getf (pc' := 58) rfl rfl rfl rfl rfl ?_
    refine Rn.iconst (v := 1) (pc' := 59) rfl (by decide) rfl ?_
    refine Rn.isub (pc' := 60) rfl rfl ?_
    rw [show upd v1 2 (nI (r + 1)) 2 - 1 = nI r from nI_subw (a := r + 1) (b := 1) (by omega)]
    exact Rn.iret rfl rfl ⟨_, A1, rfl, by rw [updO]; exact hu, hv1, rfl, rfl, g2, g3, g4⟩
end U2
end NC2
