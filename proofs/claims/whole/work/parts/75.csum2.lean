/-! THE CLASS: SUMS. -/
section DA
variable {m0 : xM} {F I : Nat → Nat → Int32} {L : Nat → Nat → Int64} {R : Nat → Nat → Option Nat} {H : Value} {s w : Nat → Int32} {o : Nat} {gg : Prop}
def gPn (wt : Nat) : Nat := if wt = 0 then 0 else 1
section GW
variable {T : Nat → Int32} {n : Nat}
theorem gFs_b (wt : Nat) (t : gS) : (gFs wt t).1 = t.1 ∧ (gFs wt t).2.2.length = t.2.2.length + gPn wt := by
  unfold gFs gPn
  by_cases h : wt = 0
  · rw [if_pos h, if_pos h]
    exact ⟨rfl, rfl⟩
  · rw [if_neg h, if_neg h]
    exact ⟨rfl, by simp only [gPt, List.length_append, List.length_singleton]⟩
theorem gBd_r {x : gR} {f : gS → gR} {s' : gS} (h : gBd x f = .inr s') : ∃ z, x = .inr z ∧ f z = .inr s' := by
  cases x with
  | inl e => exact nomatch h
  | inr z => exact ⟨z, rfl, h⟩
theorem gSl_b (hT : ∀ i, -128 ≤ T i ∧ T i ≤ 127) : ∀ (f wt : Nat) (t s' : gS), t.1 ≤ n → gSl T n f wt t = .inr s' → t.1 ≤ s'.1 ∧ s'.1 ≤ n ∧ s'.2.2.length + t.1 ≤ t.2.2.length + gPn wt + s'.1
  | 0, _, _, _, _, h => nomatch h
  | f + 1, wt, t, s', hp, h => by
    have hb := gFs_b wt t
    unfold gSl at h
    by_cases h0 : rkE T n t.1 = 0
    · rw [if_pos h0] at h
      obtain rfl := Sum.inr.inj h
      omega
    · rw [if_neg h0] at h
      have k0 := rk_kd h0
      have hx := nx_gt hT hp k0
      have hx2 := nx_le (T := T) hp
      by_cases h2 : rkE T n t.1 = 2 ∨ rkE T n t.1 = 3
      · rw [if_pos h2] at h
        obtain ⟨z, e1, e2⟩ := gBd_r h
        have b1 := gVa_b (t := gAd T n (gFs wt t)) hT (by show nxE T n (gFs wt t).1 ≤ n; rw [hb.1]; exact hx2) e1
        have b2 := gSl_b hT f _ z s' b1.2.1 e2
        have e3 : (gAd T n (gFs wt t)).1 = nxE T n t.1 := by show nxE T n (gFs wt t).1 = _; rw [hb.1]
        have e4 : (gAd T n (gFs wt t)).2.2.length = t.2.2.length + gPn wt := hb.2
        have e5 : gPn (rkE T n t.1) = 1 := if_neg h0
        omega
      · rw [if_neg h2] at h
        obtain ⟨z, e1, e2⟩ := gBd_r h
        have b1 := gVa_b (t := gAd T n t) hT hx2 e1
        have b2 := gSl_b hT f _ (gPt (rkE T n t.1, 0) z) s' b1.2.1 e2
        have e3 : (gAd T n t).1 = nxE T n t.1 := rfl
        have e4 : (gAd T n t).2.2.length = t.2.2.length := rfl
        have e5 : (gPt (rkE T n t.1, 0) z).2.2.length = z.2.2.length + 1 := by simp only [gPt, List.length_append, List.length_singleton]
        have e6 : (gPt (rkE T n t.1, 0) z).1 = z.1 := rfl
        omega
theorem gSu_b (hT : ∀ i, -128 ≤ T i ∧ T i ≤ 127) {t s' : gS} (hp : t.1 ≤ n) (h : gSu T n t = .inr s') : t.1 < s'.1 ∧ s'.1 ≤ n ∧ s'.2.2.length + t.1 ≤ t.2.2.length + s'.1 ∧ t.1 < n := by
  obtain ⟨z, e1, e2⟩ := gBd_r h
  have b1 := gVa_b hT hp e1
  have b2 := gSl_b hT _ _ z s' b1.2.1 e2
  have e5 : gPn 0 = 0 := rfl
  omega
end GW
section RU
variable {T : Nat → Int32} {n d : Nat} {t : gS}
theorem l_K46 {i wt : Nat} {y : Int32} {Q : Option Value → xM → Prop} (hd : 1 ≤ d) (h : RS F I T n t) (hb : t.2.2.length + gPn wt ≤ t.1) (hw : wt = 0 ∨ wt = 2 ∨ wt = 3) (kk : ∀ F1 I1, RS F1 I1 T n (gFs wt t) → cFI F I F1 I1 → Rn d j_RuleReader_sum 55 [.ref 3, .ref 1, .int (stV wt), .int (nI i), .int y, .int 0] [] (CC m0 F1 I1 L R H) Q) : Rn d j_RuleReader_sum 46 [.ref 3, .ref 1, .int (stV wt), .int (nI i), .int y, .int 0] [] (CC m0 F I L R H) Q := by
  have h400 := h.2.2.1
  have h401 := h.2.2.2.1
  obtain rfl | rfl | rfl := hw
  · refine Rn.step (pc' := 47) rfl rfl ?_
    refine Rn.ifc_lt (pc1 := 55) (pc2 := 50) rfl rfl rfl (fun h47 => ?_) (fun h47 => absurd (by decide) h47)
    exact kk _ _ h (cFI.rfl F I)
  · refine Rn.step (pc' := 47) rfl rfl ?_
    refine Rn.ifc_lt (pc1 := 55) (pc2 := 50) rfl rfl rfl (fun h47 => absurd h47 (by decide)) (fun h47 => ?_)
    refine Rn.step (pc' := 51) rfl rfl ?_
    refine Rn.step (pc' := 52) rfl rfl ?_
    refine Rn.vv (pc' := 55) rfl (by decide) (by omega) rfl rfl rfl (r_put (2, 0) h (by have : gPn 2 = 1 := rfl; omega)) ?_
    exact kk _ _ h.put ⟨fun k _ b => up_ne _ _ b, fun k a => up_ne _ _ a, rfl⟩
  · refine Rn.step (pc' := 47) rfl rfl ?_
    refine Rn.ifc_lt (pc1 := 55) (pc2 := 50) rfl rfl rfl (fun h47 => absurd h47 (by decide)) (fun h47 => ?_)
    refine Rn.step (pc' := 51) rfl rfl ?_
    refine Rn.step (pc' := 52) rfl rfl ?_
    refine Rn.vv (pc' := 55) rfl (by decide) (by omega) rfl rfl rfl (r_put (3, 0) h (by have : gPn 3 = 1 := rfl; omega)) ?_
    exact kk _ _ h.put ⟨fun k _ b => up_ne _ _ b, fun k a => up_ne _ _ a, rfl⟩
set_option maxHeartbeats 4000000 in
theorem l_K_sum (hd : 8 ≤ d) (hS : STR0 m0) : ∀ (f i wt : Nat) (F I : Nat → Nat → Int32) (t : gS) (x4 x5 : Value), RS F I T n t → n - t.1 < f → t.2.2.length + gPn wt ≤ t.1 → i < t.1 → (wt = 0 ∨ wt = 2 ∨ wt = 3) → Rn d j_RuleReader_sum 14 [.ref 3, .ref 1, .int (stV wt), .int (nI i), x4, x5] [] (CC m0 F I L R H) (gO m0 F I L R H T n (gSl T n f wt t))
  | 0, _, _, _, _, _, _, _, _, hf, _, _, _ => absurd hf (Nat.not_lt_zero _)
  | f + 1, i, wt, F, I, t, x4, x5, h, hf, hb, hi, hw => by
    have hn0 := h.2.2.1
    have hn1 := h.2.2.2.1
    rcases rk_in (T := T) (n := n) t.1 with e | e | e | e | e | e
    · rw [show gSl T n (f + 1) wt t = .inr (gFs wt t) from if_pos e]
      refine Rn.step (pc' := 15) rfl rfl ?_
      refine Rn.iconst (v := 400) (pc' := 18) rfl (by decide) rfl ?_
      refine Rn.icmp_ge (pc1 := 99) (pc2 := 21) rfl rfl rfl (fun h18 => absurd h18 (fun z => absurd ((nI_leI (a := 400) (b := i) (by omega) (by omega)).mp z) (by omega))) (fun h18 => ?_)
      refine Rn.step (pc' := 22) rfl rfl ?_
      refine Rn.si (pc' := 25) rfl (by decide) (by omega) rfl rfl ((show Cl (d - 1) j_RuleReader_reckoning [.ref 1] (CC m0 F I L R H) (Pi (stV 0) (CC m0 F I L R H)) from e ▸ r_reck h)) ?_
      refine Rn.step (pc' := 27) rfl rfl ?_
      refine Rn.step (pc' := 29) rfl rfl ?_
      refine Rn.iconst (v := 19) (pc' := 31) rfl (by decide) rfl ?_
      refine Rn.icmp_lt (pc1 := 38) (pc2 := 34) rfl rfl rfl (fun h31 => ?_) (fun h31 => absurd (by decide) h31)
      refine Rn.iconst (v := 0) (pc' := 39) rfl (by decide) rfl ?_
      refine Rn.step (pc' := 41) rfl rfl ?_
      refine Rn.step (pc' := 43) rfl rfl ?_
      refine Rn.ifc_ne (pc1 := 55) (pc2 := 46) rfl rfl rfl (fun h43 => absurd h43 (fun z => z rfl)) (fun h43 => ?_)
      refine l_K46 (by omega) h hb hw (fun F1 I1 h1 c1 => ?_)
      refine Rn.step (pc' := 57) rfl rfl ?_
      refine Rn.ifc_ge (pc1 := 62) (pc2 := 60) rfl rfl rfl (fun h57 => absurd h57 (by decide)) (fun h57 => ?_)
      refine Rn.iconst (v := 1) (pc' := 61) rfl (by decide) rfl ?_
      exact Rn.iret rfl (rfl) (⟨F1, I1, rfl, c1, rfl, h1⟩)
    · have eg : gSl T n (f + 1) wt t = gBd (gVa T n (gAd T n (gFs wt t))) (fun z => gSl T n f 2 z) := by
        show (if rkE T n t.1 = 0 then _ else if rkE T n t.1 = 2 ∨ rkE T n t.1 = 3 then gBd _ (fun z => gSl T n f (rkE T n t.1) z) else gBd _ (fun z => gSl T n f wt (gPt (rkE T n t.1, 0) z))) = _
        rw [e]
        rfl
      rw [eg]
      have k0 : ¬ kdE T n t.1 = 0 := rk_kd (by omega)
      have hx := nx_gt h.2.2.2.2.1 h.2.2.1 k0
      have hx2 := nx_le (T := T) h.2.2.1
      have hfs := gFs_b wt t
      have ea1 : (gAd T n (gFs wt t)).1 = nxE T n t.1 := by show nxE T n (gFs wt t).1 = _; rw [hfs.1]
      have ea2 : (gAd T n (gFs wt t)).2.2.length = t.2.2.length + gPn wt := hfs.2
      refine Rn.step (pc' := 15) rfl rfl ?_
      refine Rn.iconst (v := 400) (pc' := 18) rfl (by decide) rfl ?_
      refine Rn.icmp_ge (pc1 := 99) (pc2 := 21) rfl rfl rfl (fun h18 => absurd h18 (fun z => absurd ((nI_leI (a := 400) (b := i) (by omega) (by omega)).mp z) (by omega))) (fun h18 => ?_)
      refine Rn.step (pc' := 22) rfl rfl ?_
      refine Rn.si (pc' := 25) rfl (by decide) (by omega) rfl rfl ((show Cl (d - 1) j_RuleReader_reckoning [.ref 1] (CC m0 F I L R H) (Pi (stV 2) (CC m0 F I L R H)) from e ▸ r_reck h)) ?_
      refine Rn.step (pc' := 27) rfl rfl ?_
      refine Rn.step (pc' := 29) rfl rfl ?_
      refine Rn.iconst (v := 19) (pc' := 31) rfl (by decide) rfl ?_
      refine Rn.icmp_lt (pc1 := 38) (pc2 := 34) rfl rfl rfl (fun h31 => ?_) (fun h31 => absurd (by decide) h31)
      refine Rn.iconst (v := 0) (pc' := 39) rfl (by decide) rfl ?_
      refine Rn.step (pc' := 41) rfl rfl ?_
      refine Rn.step (pc' := 43) rfl rfl ?_
      refine Rn.ifc_ne (pc1 := 55) (pc2 := 46) rfl rfl rfl (fun h43 => absurd h43 (fun z => z rfl)) (fun h43 => ?_)
      refine l_K46 (by omega) h hb hw (fun F1 I1 h1 c1 => ?_)
      refine Rn.step (pc' := 57) rfl rfl ?_
      refine Rn.ifc_ge (pc1 := 62) (pc2 := 60) rfl rfl rfl (fun h57 => ?_) (fun h57 => absurd (by decide) h57)
      refine Rn.step (pc' := 63) rfl rfl ?_
      refine Rn.callV (pc' := 66) rfl (by decide) (by omega) rfl rfl rfl (r_next (by omega) h1) (fun r_ m_ hc_ => ?_)
      obtain ⟨rfl, f1, rfl, h2⟩ := hc_
      refine Rn.step (pc' := 67) rfl rfl ?_
      refine Rn.step (pc' := 68) rfl rfl ?_
      refine Rn.callV (pc' := 71) rfl (by decide) (by omega) rfl rfl rfl (r_val (by omega) hS h2 (by omega)) (fun r_ m_ hc_ => ?_)
      obtain ⟨F2, I2, rfl, c2, g2⟩ := hc_
      cases ev : gVa T n (gAd T n (gFs wt t)) with
      | inl e9 =>
        rw [ev] at g2
        obtain ⟨rfl, g3⟩ := g2
        refine Rn.ifc_ne (pc1 := 76) (pc2 := 74) rfl rfl rfl (fun h71 => absurd h71 (fun z => z rfl)) (fun h71 => ?_)
        refine Rn.iconst (v := 0) (pc' := 75) rfl (by decide) rfl ?_
        exact Rn.iret rfl (rfl) (⟨F2, I2, rfl, ((c1.f1 f1).trans c2), rfl, g3⟩)
      | inr z =>
        rw [ev] at g2
        obtain ⟨rfl, h3⟩ := g2
        have bz := gVa_b h.2.2.2.2.1 (by rw [ea1]; exact hx2) ev
        have bi := h.2.2.2.1
        have ep : gPn 2 = 1 := rfl
        show Rn _ _ _ _ _ _ (gO m0 F I L R H T n (gSl T n f 2 z))
        refine Rn.ifc_ne (pc1 := 76) (pc2 := 74) rfl rfl rfl (fun h71 => ?_) (fun h71 => absurd h71 (by decide))
        refine Rn.step (pc' := 78) rfl rfl ?_
        refine Rn.ifc_eq (pc1 := 90) (pc2 := 81) rfl rfl rfl (fun h78 => ?_) (fun h78 => absurd (rfl) h78)
        refine Rn.step (pc' := 92) rfl rfl ?_
        refine Rn.step (pc' := 93) rfl rfl ?_
        refine Rn.step (pc' := 96) rfl rfl ?_
        refine Rn.step (pc' := 14) rfl rfl ?_
        refine Rn.ls6 rfl rfl rfl (congrArg Value.int (nI_i1 i)) rfl rfl ?_
        refine Rn.conseq (l_K_sum hd hS f (i + 1) 2 _ _ z _ _ h3 (by omega) (by omega) (by omega) (Or.inr (Or.inl rfl))) (fun r m hg => hg.mono ((c1.f1 f1).trans c2))
    · have eg : gSl T n (f + 1) wt t = gBd (gVa T n (gAd T n (gFs wt t))) (fun z => gSl T n f 3 z) := by
        show (if rkE T n t.1 = 0 then _ else if rkE T n t.1 = 2 ∨ rkE T n t.1 = 3 then gBd _ (fun z => gSl T n f (rkE T n t.1) z) else gBd _ (fun z => gSl T n f wt (gPt (rkE T n t.1, 0) z))) = _
        rw [e]
        rfl
      rw [eg]
      have k0 : ¬ kdE T n t.1 = 0 := rk_kd (by omega)
      have hx := nx_gt h.2.2.2.2.1 h.2.2.1 k0
      have hx2 := nx_le (T := T) h.2.2.1
      have hfs := gFs_b wt t
      have ea1 : (gAd T n (gFs wt t)).1 = nxE T n t.1 := by show nxE T n (gFs wt t).1 = _; rw [hfs.1]
      have ea2 : (gAd T n (gFs wt t)).2.2.length = t.2.2.length + gPn wt := hfs.2
      refine Rn.step (pc' := 15) rfl rfl ?_
      refine Rn.iconst (v := 400) (pc' := 18) rfl (by decide) rfl ?_
      refine Rn.icmp_ge (pc1 := 99) (pc2 := 21) rfl rfl rfl (fun h18 => absurd h18 (fun z => absurd ((nI_leI (a := 400) (b := i) (by omega) (by omega)).mp z) (by omega))) (fun h18 => ?_)
      refine Rn.step (pc' := 22) rfl rfl ?_
      refine Rn.si (pc' := 25) rfl (by decide) (by omega) rfl rfl ((show Cl (d - 1) j_RuleReader_reckoning [.ref 1] (CC m0 F I L R H) (Pi (stV 3) (CC m0 F I L R H)) from e ▸ r_reck h)) ?_
      refine Rn.step (pc' := 27) rfl rfl ?_
      refine Rn.step (pc' := 29) rfl rfl ?_
      refine Rn.iconst (v := 19) (pc' := 31) rfl (by decide) rfl ?_
      refine Rn.icmp_lt (pc1 := 38) (pc2 := 34) rfl rfl rfl (fun h31 => ?_) (fun h31 => absurd (by decide) h31)
      refine Rn.iconst (v := 0) (pc' := 39) rfl (by decide) rfl ?_
      refine Rn.step (pc' := 41) rfl rfl ?_
      refine Rn.step (pc' := 43) rfl rfl ?_
      refine Rn.ifc_ne (pc1 := 55) (pc2 := 46) rfl rfl rfl (fun h43 => absurd h43 (fun z => z rfl)) (fun h43 => ?_)
      refine l_K46 (by omega) h hb hw (fun F1 I1 h1 c1 => ?_)
      refine Rn.step (pc' := 57) rfl rfl ?_
      refine Rn.ifc_ge (pc1 := 62) (pc2 := 60) rfl rfl rfl (fun h57 => ?_) (fun h57 => absurd (by decide) h57)
      refine Rn.step (pc' := 63) rfl rfl ?_
      refine Rn.callV (pc' := 66) rfl (by decide) (by omega) rfl rfl rfl (r_next (by omega) h1) (fun r_ m_ hc_ => ?_)
      obtain ⟨rfl, f1, rfl, h2⟩ := hc_
      refine Rn.step (pc' := 67) rfl rfl ?_
      refine Rn.step (pc' := 68) rfl rfl ?_
      refine Rn.callV (pc' := 71) rfl (by decide) (by omega) rfl rfl rfl (r_val (by omega) hS h2 (by omega)) (fun r_ m_ hc_ => ?_)
      obtain ⟨F2, I2, rfl, c2, g2⟩ := hc_
      cases ev : gVa T n (gAd T n (gFs wt t)) with
      | inl e9 =>
        rw [ev] at g2
        obtain ⟨rfl, g3⟩ := g2
        refine Rn.ifc_ne (pc1 := 76) (pc2 := 74) rfl rfl rfl (fun h71 => absurd h71 (fun z => z rfl)) (fun h71 => ?_)
        refine Rn.iconst (v := 0) (pc' := 75) rfl (by decide) rfl ?_
        exact Rn.iret rfl (rfl) (⟨F2, I2, rfl, ((c1.f1 f1).trans c2), rfl, g3⟩)
      | inr z =>
        rw [ev] at g2
        obtain ⟨rfl, h3⟩ := g2
        have bz := gVa_b h.2.2.2.2.1 (by rw [ea1]; exact hx2) ev
        have bi := h.2.2.2.1
        have ep : gPn 3 = 1 := rfl
        show Rn _ _ _ _ _ _ (gO m0 F I L R H T n (gSl T n f 3 z))
        refine Rn.ifc_ne (pc1 := 76) (pc2 := 74) rfl rfl rfl (fun h71 => ?_) (fun h71 => absurd h71 (by decide))
        refine Rn.step (pc' := 78) rfl rfl ?_
        refine Rn.ifc_eq (pc1 := 90) (pc2 := 81) rfl rfl rfl (fun h78 => ?_) (fun h78 => absurd (rfl) h78)
        refine Rn.step (pc' := 92) rfl rfl ?_
        refine Rn.step (pc' := 93) rfl rfl ?_
        refine Rn.step (pc' := 96) rfl rfl ?_
        refine Rn.step (pc' := 14) rfl rfl ?_
        refine Rn.ls6 rfl rfl rfl (congrArg Value.int (nI_i1 i)) rfl rfl ?_
        refine Rn.conseq (l_K_sum hd hS f (i + 1) 3 _ _ z _ _ h3 (by omega) (by omega) (by omega) (Or.inr (Or.inr rfl))) (fun r m hg => hg.mono ((c1.f1 f1).trans c2))
    · have eg : gSl T n (f + 1) wt t = gBd (gVa T n (gAd T n t)) (fun z => gSl T n f wt (gPt (4, 0) z)) := by
        show (if rkE T n t.1 = 0 then _ else if rkE T n t.1 = 2 ∨ rkE T n t.1 = 3 then gBd _ (fun z => gSl T n f (rkE T n t.1) z) else gBd _ (fun z => gSl T n f wt (gPt (rkE T n t.1, 0) z))) = _
        rw [e]
        rfl
      rw [eg]
      have k0 : ¬ kdE T n t.1 = 0 := rk_kd (by omega)
      have hx := nx_gt h.2.2.2.2.1 h.2.2.1 k0
      have hx2 := nx_le (T := T) h.2.2.1
      have hfs := gFs_b wt t
      have ea1 : (gAd T n t).1 = nxE T n t.1 := rfl
      have ea2 : (gAd T n t).2.2.length = t.2.2.length := rfl
      refine Rn.step (pc' := 15) rfl rfl ?_
      refine Rn.iconst (v := 400) (pc' := 18) rfl (by decide) rfl ?_
      refine Rn.icmp_ge (pc1 := 99) (pc2 := 21) rfl rfl rfl (fun h18 => absurd h18 (fun z => absurd ((nI_leI (a := 400) (b := i) (by omega) (by omega)).mp z) (by omega))) (fun h18 => ?_)
      refine Rn.step (pc' := 22) rfl rfl ?_
      refine Rn.si (pc' := 25) rfl (by decide) (by omega) rfl rfl ((show Cl (d - 1) j_RuleReader_reckoning [.ref 1] (CC m0 F I L R H) (Pi (stV 4) (CC m0 F I L R H)) from e ▸ r_reck h)) ?_
      refine Rn.step (pc' := 27) rfl rfl ?_
      refine Rn.step (pc' := 29) rfl rfl ?_
      refine Rn.iconst (v := 19) (pc' := 31) rfl (by decide) rfl ?_
      refine Rn.icmp_lt (pc1 := 38) (pc2 := 34) rfl rfl rfl (fun h31 => absurd h31 (by decide)) (fun h31 => ?_)
      refine Rn.iconst (v := 1) (pc' := 35) rfl (by decide) rfl ?_
      refine Rn.step (pc' := 39) rfl rfl ?_
      refine Rn.step (pc' := 41) rfl rfl ?_
      refine Rn.step (pc' := 43) rfl rfl ?_
      refine Rn.ifc_ne (pc1 := 55) (pc2 := 46) rfl rfl rfl (fun h43 => ?_) (fun h43 => absurd h43 (by decide))
      refine Rn.step (pc' := 57) rfl rfl ?_
      refine Rn.ifc_ge (pc1 := 62) (pc2 := 60) rfl rfl rfl (fun h57 => ?_) (fun h57 => absurd (by decide) h57)
      refine Rn.step (pc' := 63) rfl rfl ?_
      refine Rn.callV (pc' := 66) rfl (by decide) (by omega) rfl rfl rfl (r_next (by omega) h) (fun r_ m_ hc_ => ?_)
      obtain ⟨rfl, f1, rfl, h2⟩ := hc_
      refine Rn.step (pc' := 67) rfl rfl ?_
      refine Rn.step (pc' := 68) rfl rfl ?_
      refine Rn.callV (pc' := 71) rfl (by decide) (by omega) rfl rfl rfl (r_val (by omega) hS h2 (by omega)) (fun r_ m_ hc_ => ?_)
      obtain ⟨F2, I2, rfl, c2, g2⟩ := hc_
      cases ev : gVa T n (gAd T n t) with
      | inl e9 =>
        rw [ev] at g2
        obtain ⟨rfl, g3⟩ := g2
        refine Rn.ifc_ne (pc1 := 76) (pc2 := 74) rfl rfl rfl (fun h71 => absurd h71 (fun z => z rfl)) (fun h71 => ?_)
        refine Rn.iconst (v := 0) (pc' := 75) rfl (by decide) rfl ?_
        exact Rn.iret rfl (rfl) (⟨F2, I2, rfl, (((cFI.rfl F I).f1 f1).trans c2), rfl, g3⟩)
      | inr z =>
        rw [ev] at g2
        obtain ⟨rfl, h3⟩ := g2
        have bz := gVa_b h.2.2.2.2.1 (by rw [ea1]; exact hx2) ev
        have bi := h.2.2.2.1
        have el : (gPt (4, 0) z).2.2.length = z.2.2.length + 1 := by simp only [gPt, List.length_append, List.length_singleton]
        have el1 : (gPt (4, 0) z).1 = z.1 := rfl
        show Rn _ _ _ _ _ _ (gO m0 F I L R H T n (gSl T n f wt (gPt (4, 0) z)))
        refine Rn.ifc_ne (pc1 := 76) (pc2 := 74) rfl rfl rfl (fun h71 => ?_) (fun h71 => absurd h71 (by decide))
        refine Rn.step (pc' := 78) rfl rfl ?_
        refine Rn.ifc_eq (pc1 := 90) (pc2 := 81) rfl rfl rfl (fun h78 => absurd h78 (by decide)) (fun h78 => ?_)
        refine Rn.step (pc' := 82) rfl rfl ?_
        refine Rn.step (pc' := 84) rfl rfl ?_
        refine Rn.vv (pc' := 87) rfl (by decide) (by omega) rfl rfl rfl (r_put (4, 0) h3 (by omega)) ?_
        refine Rn.step (pc' := 93) rfl rfl ?_
        refine Rn.step (pc' := 96) rfl rfl ?_
        refine Rn.step (pc' := 14) rfl rfl ?_
        refine Rn.ls6 rfl rfl rfl (congrArg Value.int (nI_i1 i)) rfl rfl ?_
        refine Rn.conseq (l_K_sum hd hS f (i + 1) wt _ _ (gPt (4, 0) z) _ _ h3.put (by omega) (by omega) (by omega) hw) (fun r m hg => hg.mono ((((cFI.rfl F I).f1 f1).trans c2).trans ⟨fun k _ b => up_ne _ _ b, fun k a => up_ne _ _ a, rfl⟩))
    · have eg : gSl T n (f + 1) wt t = gBd (gVa T n (gAd T n t)) (fun z => gSl T n f wt (gPt (5, 0) z)) := by
        show (if rkE T n t.1 = 0 then _ else if rkE T n t.1 = 2 ∨ rkE T n t.1 = 3 then gBd _ (fun z => gSl T n f (rkE T n t.1) z) else gBd _ (fun z => gSl T n f wt (gPt (rkE T n t.1, 0) z))) = _
        rw [e]
        rfl
      rw [eg]
      have k0 : ¬ kdE T n t.1 = 0 := rk_kd (by omega)
      have hx := nx_gt h.2.2.2.2.1 h.2.2.1 k0
      have hx2 := nx_le (T := T) h.2.2.1
      have hfs := gFs_b wt t
      have ea1 : (gAd T n t).1 = nxE T n t.1 := rfl
      have ea2 : (gAd T n t).2.2.length = t.2.2.length := rfl
      refine Rn.step (pc' := 15) rfl rfl ?_
      refine Rn.iconst (v := 400) (pc' := 18) rfl (by decide) rfl ?_
      refine Rn.icmp_ge (pc1 := 99) (pc2 := 21) rfl rfl rfl (fun h18 => absurd h18 (fun z => absurd ((nI_leI (a := 400) (b := i) (by omega) (by omega)).mp z) (by omega))) (fun h18 => ?_)
      refine Rn.step (pc' := 22) rfl rfl ?_
      refine Rn.si (pc' := 25) rfl (by decide) (by omega) rfl rfl ((show Cl (d - 1) j_RuleReader_reckoning [.ref 1] (CC m0 F I L R H) (Pi (stV 5) (CC m0 F I L R H)) from e ▸ r_reck h)) ?_
      refine Rn.step (pc' := 27) rfl rfl ?_
      refine Rn.step (pc' := 29) rfl rfl ?_
      refine Rn.iconst (v := 19) (pc' := 31) rfl (by decide) rfl ?_
      refine Rn.icmp_lt (pc1 := 38) (pc2 := 34) rfl rfl rfl (fun h31 => absurd h31 (by decide)) (fun h31 => ?_)
      refine Rn.iconst (v := 1) (pc' := 35) rfl (by decide) rfl ?_
      refine Rn.step (pc' := 39) rfl rfl ?_
      refine Rn.step (pc' := 41) rfl rfl ?_
      refine Rn.step (pc' := 43) rfl rfl ?_
      refine Rn.ifc_ne (pc1 := 55) (pc2 := 46) rfl rfl rfl (fun h43 => ?_) (fun h43 => absurd h43 (by decide))
      refine Rn.step (pc' := 57) rfl rfl ?_
      refine Rn.ifc_ge (pc1 := 62) (pc2 := 60) rfl rfl rfl (fun h57 => ?_) (fun h57 => absurd (by decide) h57)
      refine Rn.step (pc' := 63) rfl rfl ?_
      refine Rn.callV (pc' := 66) rfl (by decide) (by omega) rfl rfl rfl (r_next (by omega) h) (fun r_ m_ hc_ => ?_)
      obtain ⟨rfl, f1, rfl, h2⟩ := hc_
      refine Rn.step (pc' := 67) rfl rfl ?_
      refine Rn.step (pc' := 68) rfl rfl ?_
      refine Rn.callV (pc' := 71) rfl (by decide) (by omega) rfl rfl rfl (r_val (by omega) hS h2 (by omega)) (fun r_ m_ hc_ => ?_)
      obtain ⟨F2, I2, rfl, c2, g2⟩ := hc_
      cases ev : gVa T n (gAd T n t) with
      | inl e9 =>
        rw [ev] at g2
        obtain ⟨rfl, g3⟩ := g2
        refine Rn.ifc_ne (pc1 := 76) (pc2 := 74) rfl rfl rfl (fun h71 => absurd h71 (fun z => z rfl)) (fun h71 => ?_)
        refine Rn.iconst (v := 0) (pc' := 75) rfl (by decide) rfl ?_
        exact Rn.iret rfl (rfl) (⟨F2, I2, rfl, (((cFI.rfl F I).f1 f1).trans c2), rfl, g3⟩)
      | inr z =>
        rw [ev] at g2
        obtain ⟨rfl, h3⟩ := g2
        have bz := gVa_b h.2.2.2.2.1 (by rw [ea1]; exact hx2) ev
        have bi := h.2.2.2.1
        have el : (gPt (5, 0) z).2.2.length = z.2.2.length + 1 := by simp only [gPt, List.length_append, List.length_singleton]
        have el1 : (gPt (5, 0) z).1 = z.1 := rfl
        show Rn _ _ _ _ _ _ (gO m0 F I L R H T n (gSl T n f wt (gPt (5, 0) z)))
        refine Rn.ifc_ne (pc1 := 76) (pc2 := 74) rfl rfl rfl (fun h71 => ?_) (fun h71 => absurd h71 (by decide))
        refine Rn.step (pc' := 78) rfl rfl ?_
        refine Rn.ifc_eq (pc1 := 90) (pc2 := 81) rfl rfl rfl (fun h78 => absurd h78 (by decide)) (fun h78 => ?_)
        refine Rn.step (pc' := 82) rfl rfl ?_
        refine Rn.step (pc' := 84) rfl rfl ?_
        refine Rn.vv (pc' := 87) rfl (by decide) (by omega) rfl rfl rfl (r_put (5, 0) h3 (by omega)) ?_
        refine Rn.step (pc' := 93) rfl rfl ?_
        refine Rn.step (pc' := 96) rfl rfl ?_
        refine Rn.step (pc' := 14) rfl rfl ?_
        refine Rn.ls6 rfl rfl rfl (congrArg Value.int (nI_i1 i)) rfl rfl ?_
        refine Rn.conseq (l_K_sum hd hS f (i + 1) wt _ _ (gPt (5, 0) z) _ _ h3.put (by omega) (by omega) (by omega) hw) (fun r m hg => hg.mono ((((cFI.rfl F I).f1 f1).trans c2).trans ⟨fun k _ b => up_ne _ _ b, fun k a => up_ne _ _ a, rfl⟩))
    · have eg : gSl T n (f + 1) wt t = gBd (gVa T n (gAd T n t)) (fun z => gSl T n f wt (gPt (14, 0) z)) := by
        show (if rkE T n t.1 = 0 then _ else if rkE T n t.1 = 2 ∨ rkE T n t.1 = 3 then gBd _ (fun z => gSl T n f (rkE T n t.1) z) else gBd _ (fun z => gSl T n f wt (gPt (rkE T n t.1, 0) z))) = _
        rw [e]
        rfl
      rw [eg]
      have k0 : ¬ kdE T n t.1 = 0 := rk_kd (by omega)
      have hx := nx_gt h.2.2.2.2.1 h.2.2.1 k0
      have hx2 := nx_le (T := T) h.2.2.1
      have hfs := gFs_b wt t
      have ea1 : (gAd T n t).1 = nxE T n t.1 := rfl
      have ea2 : (gAd T n t).2.2.length = t.2.2.length := rfl
      refine Rn.step (pc' := 15) rfl rfl ?_
      refine Rn.iconst (v := 400) (pc' := 18) rfl (by decide) rfl ?_
      refine Rn.icmp_ge (pc1 := 99) (pc2 := 21) rfl rfl rfl (fun h18 => absurd h18 (fun z => absurd ((nI_leI (a := 400) (b := i) (by omega) (by omega)).mp z) (by omega))) (fun h18 => ?_)
      refine Rn.step (pc' := 22) rfl rfl ?_
      refine Rn.si (pc' := 25) rfl (by decide) (by omega) rfl rfl ((show Cl (d - 1) j_RuleReader_reckoning [.ref 1] (CC m0 F I L R H) (Pi (stV 14) (CC m0 F I L R H)) from e ▸ r_reck h)) ?_
      refine Rn.step (pc' := 27) rfl rfl ?_
      refine Rn.step (pc' := 29) rfl rfl ?_
      refine Rn.iconst (v := 19) (pc' := 31) rfl (by decide) rfl ?_
      refine Rn.icmp_lt (pc1 := 38) (pc2 := 34) rfl rfl rfl (fun h31 => absurd h31 (by decide)) (fun h31 => ?_)
      refine Rn.iconst (v := 1) (pc' := 35) rfl (by decide) rfl ?_
      refine Rn.step (pc' := 39) rfl rfl ?_
      refine Rn.step (pc' := 41) rfl rfl ?_
      refine Rn.step (pc' := 43) rfl rfl ?_
      refine Rn.ifc_ne (pc1 := 55) (pc2 := 46) rfl rfl rfl (fun h43 => ?_) (fun h43 => absurd h43 (by decide))
      refine Rn.step (pc' := 57) rfl rfl ?_
      refine Rn.ifc_ge (pc1 := 62) (pc2 := 60) rfl rfl rfl (fun h57 => ?_) (fun h57 => absurd (by decide) h57)
      refine Rn.step (pc' := 63) rfl rfl ?_
      refine Rn.callV (pc' := 66) rfl (by decide) (by omega) rfl rfl rfl (r_next (by omega) h) (fun r_ m_ hc_ => ?_)
      obtain ⟨rfl, f1, rfl, h2⟩ := hc_
      refine Rn.step (pc' := 67) rfl rfl ?_
      refine Rn.step (pc' := 68) rfl rfl ?_
      refine Rn.callV (pc' := 71) rfl (by decide) (by omega) rfl rfl rfl (r_val (by omega) hS h2 (by omega)) (fun r_ m_ hc_ => ?_)
      obtain ⟨F2, I2, rfl, c2, g2⟩ := hc_
      cases ev : gVa T n (gAd T n t) with
      | inl e9 =>
        rw [ev] at g2
        obtain ⟨rfl, g3⟩ := g2
        refine Rn.ifc_ne (pc1 := 76) (pc2 := 74) rfl rfl rfl (fun h71 => absurd h71 (fun z => z rfl)) (fun h71 => ?_)
        refine Rn.iconst (v := 0) (pc' := 75) rfl (by decide) rfl ?_
        exact Rn.iret rfl (rfl) (⟨F2, I2, rfl, (((cFI.rfl F I).f1 f1).trans c2), rfl, g3⟩)
      | inr z =>
        rw [ev] at g2
        obtain ⟨rfl, h3⟩ := g2
        have bz := gVa_b h.2.2.2.2.1 (by rw [ea1]; exact hx2) ev
        have bi := h.2.2.2.1
        have el : (gPt (14, 0) z).2.2.length = z.2.2.length + 1 := by simp only [gPt, List.length_append, List.length_singleton]
        have el1 : (gPt (14, 0) z).1 = z.1 := rfl
        show Rn _ _ _ _ _ _ (gO m0 F I L R H T n (gSl T n f wt (gPt (14, 0) z)))
        refine Rn.ifc_ne (pc1 := 76) (pc2 := 74) rfl rfl rfl (fun h71 => ?_) (fun h71 => absurd h71 (by decide))
        refine Rn.step (pc' := 78) rfl rfl ?_
        refine Rn.ifc_eq (pc1 := 90) (pc2 := 81) rfl rfl rfl (fun h78 => absurd h78 (by decide)) (fun h78 => ?_)
        refine Rn.step (pc' := 82) rfl rfl ?_
        refine Rn.step (pc' := 84) rfl rfl ?_
        refine Rn.vv (pc' := 87) rfl (by decide) (by omega) rfl rfl rfl (r_put (14, 0) h3 (by omega)) ?_
        refine Rn.step (pc' := 93) rfl rfl ?_
        refine Rn.step (pc' := 96) rfl rfl ?_
        refine Rn.step (pc' := 14) rfl rfl ?_
        refine Rn.ls6 rfl rfl rfl (congrArg Value.int (nI_i1 i)) rfl rfl ?_
        refine Rn.conseq (l_K_sum hd hS f (i + 1) wt _ _ (gPt (14, 0) z) _ _ h3.put (by omega) (by omega) (by omega) hw) (fun r m hg => hg.mono ((((cFI.rfl F I).f1 f1).trans c2).trans ⟨fun k _ b => up_ne _ _ b, fun k a => up_ne _ _ a, rfl⟩))
theorem r_sum (hd : 8 ≤ d) (hS : STR0 m0) (h : RS F I T n t) (hb : t.2.2.length ≤ t.1) : Cl d j_RuleReader_sum [.ref 3, .ref 1] (CC m0 F I L R H) (gO m0 F I L R H T n (gSu T n t)) := by
  show Rn d j_RuleReader_sum 0 _ _ _ _
  refine Rn.step (pc' := 1) rfl rfl ?_
  refine Rn.step (pc' := 2) rfl rfl ?_
  refine Rn.callV (pc' := 5) rfl (by decide) (by omega) rfl rfl rfl (r_val (by omega) hS h hb) (fun r_ m_ hc_ => ?_)
  obtain ⟨F2, I2, rfl, c2, g2⟩ := hc_
  unfold gSu
  cases ev : gVa T n t with
  | inl e9 =>
    rw [ev] at g2
    obtain ⟨rfl, g3⟩ := g2
    refine Rn.ifc_ne (pc1 := 10) (pc2 := 8) rfl rfl rfl (fun h5 => absurd h5 (fun z => z rfl)) (fun h5 => ?_)
    refine Rn.iconst (v := 0) (pc' := 9) rfl (by decide) rfl ?_
    exact Rn.iret rfl (rfl) (⟨F2, I2, rfl, c2, rfl, g3⟩)
  | inr z =>
    rw [ev] at g2
    obtain ⟨rfl, h3⟩ := g2
    have bz := gVa_b h.2.2.2.2.1 h.2.2.1 ev
    have ep : gPn 0 = 0 := rfl
    refine Rn.ifc_ne (pc1 := 10) (pc2 := 8) rfl rfl rfl (fun h5 => ?_) (fun h5 => absurd h5 (by decide))
    refine Rn.iconst (v := (-1)) (pc' := 11) rfl (by decide) rfl ?_
    refine Rn.step (pc' := 12) rfl rfl ?_
    refine Rn.iconst (v := 0) (pc' := 13) rfl (by decide) rfl ?_
    refine Rn.step (pc' := 14) rfl rfl ?_
    exact Rn.conseq (l_K_sum hd hS (n + 1) 0 0 _ _ z _ _ h3 (by omega) (by omega) (by omega) (Or.inl rfl)) (fun r m hg => hg.mono c2)
end RU
end DA
