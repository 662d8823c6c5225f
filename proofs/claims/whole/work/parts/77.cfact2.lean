/-! THE CLASS: FACTS. -/
section DC
variable {m0 : xM} {F I : Nat → Nat → Int32} {L : Nat → Nat → Int64} {R : Nat → Nat → Option Nat} {H : Value} {s w : Nat → Int32} {o : Nat} {gg : Prop}
section RW
variable {T : Nat → Int32} {n d : Nat} {t : gS}
theorem cm_in (p : Nat) : cmE T n p = 0 ∨ cmE T n p = 6 ∨ cmE T n p = 7 ∨ cmE T n p = 8 ∨ cmE T n p = 9 ∨ cmE T n p = 10 := by
  unfold cmE
  repeat' split
  all_goals omega
theorem cm_st {p : Nat} (h : ¬ cmE T n p = 0) : stV (cmE T n p) = nI (csN (cmE T n p, 0)) ∧ 0 ≤ nI (csN (cmE T n p, 0)) := by
  rcases cm_in (T := T) (n := n) p with e | e | e | e | e | e
  · exact absurd e h
  all_goals
    rw [e]
    decide
set_option maxHeartbeats 4000000 in
theorem l_F36 {D : Int32} {x4 : Value} (hd : 9 ≤ d) (hS : STR0 m0) (h : RS F I T n t) (hb : t.2.2.length ≤ t.1) : Rn d j_RuleReader_fact 36 [.ref 3, .ref 1, .int D, .int 0, x4] [] (CC m0 F I L R H) (gO m0 F I L R H T n (gCm T n t)) := by
  have hT := h.2.2.2.2.1
  refine Rn.step (pc' := 37) rfl rfl ?_
  refine Rn.step (pc' := 38) rfl rfl ?_
  refine Rn.callV (pc' := 41) rfl (by decide) (by omega) rfl rfl rfl (r_sum (by omega) hS h hb) (fun r_ m_ hc_ => ?_)
  obtain ⟨F2, I2, rfl, c2, g2⟩ := hc_
  unfold gCm
  cases ev : gSu T n t with
  | inl e9 =>
    rw [ev] at g2
    obtain ⟨rfl, g3⟩ := g2
    refine Rn.ifc_ne (pc1 := 46) (pc2 := 44) rfl rfl rfl (fun h41 => absurd h41 (fun z => z rfl)) (fun h41 => ?_)
    refine Rn.iconst (v := 0) (pc' := 45) rfl (by decide) rfl ?_
    exact Rn.iret rfl (rfl) (⟨F2, I2, rfl, c2, rfl, g3⟩)
  | inr a =>
    rw [ev] at g2
    obtain ⟨rfl, h3⟩ := g2
    have bz := gSu_b hT h.2.2.1 ev
    refine Rn.ifc_ne (pc1 := 46) (pc2 := 44) rfl rfl rfl (fun h41 => ?_) (fun h41 => absurd h41 (by decide))
    show Rn _ _ _ _ _ _ (gO m0 F I L R H T n (if cmE T n a.1 = 0 then gFl a 0 else gPa a (fun b => gBd (gSu T n (gAd T n b)) (fun c => .inr (gPt (cmE T n a.1, 0) c)))))
    by_cases c0 : cmE T n a.1 = 0
    · rw [if_pos c0]
      refine Rn.step (pc' := 47) rfl rfl ?_
      refine Rn.si (pc' := 50) rfl (by decide) (by omega) rfl rfl ((show Cl (d - 1) j_RuleReader_comparing [.ref 1] (CC m0 F2 I2 L R H) (Pi (-1) (CC m0 F2 I2 L R H)) from (show stV (cmE T n a.1) = -1 by rw [c0]; rfl) ▸ r_comp h3)) ?_
      refine Rn.step (pc' := 52) rfl rfl ?_
      refine Rn.step (pc' := 54) rfl rfl ?_
      refine Rn.ifc_ge (pc1 := 63) (pc2 := 57) rfl rfl rfl (fun h54 => absurd h54 (by decide)) (fun h54 => ?_)
      refine Rn.step (pc' := 58) rfl rfl ?_
      refine Rn.iconst (v := 0) (pc' := 59) rfl (by decide) rfl ?_
      refine Rn.vi (pc' := 62) rfl (by decide) (by omega) rfl rfl rfl (r_fail 0 h3) ?_
      exact Rn.iret rfl (rfl) ((r_failO 0 (fun z => .inr z)).mono c2)
    · rw [if_neg c0]
      refine Rn.step (pc' := 47) rfl rfl ?_
      refine Rn.si (pc' := 50) rfl (by decide) (by omega) rfl rfl ((show Cl (d - 1) j_RuleReader_comparing [.ref 1] (CC m0 F2 I2 L R H) (Pi (nI (csN (cmE T n a.1, 0))) (CC m0 F2 I2 L R H)) from (cm_st c0).1 ▸ r_comp h3)) ?_
      refine Rn.step (pc' := 52) rfl rfl ?_
      refine Rn.step (pc' := 54) rfl rfl ?_
      refine Rn.ifc_ge (pc1 := 63) (pc2 := 57) rfl rfl rfl (fun h54 => ?_) (fun h54 => absurd ((cm_st c0).2) h54)
      refine Rn.step (pc' := 64) rfl rfl ?_
      refine Rn.step (pc' := 65) rfl rfl ?_
      refine Rn.callV (pc' := 68) rfl (by decide) (by omega) rfl rfl rfl (r_part h3 (by omega)) (fun r_ m_ hc_ => ?_)
      by_cases hk : a.2.1 < 60
      · obtain ⟨rfl, F3, rfl, c3, h4⟩ := hc_.1 hk
        rw [show gPa a _ = _ from if_pos hk]
        have hx := nx_gt hT bz.2.1 (cm_kd c0)
        have q1 : (gAd T n (a.1, a.2.1 + 1, a.2.2)).1 = nxE T n a.1 := rfl
        have q2 : (gAd T n (a.1, a.2.1 + 1, a.2.2)).2.2.length = a.2.2.length := rfl
        refine Rn.ifc_ne (pc1 := 73) (pc2 := 71) rfl rfl rfl (fun h68 => ?_) (fun h68 => absurd h68 (by decide))
        refine Rn.step (pc' := 74) rfl rfl ?_
        refine Rn.callV (pc' := 77) rfl (by decide) (by omega) rfl rfl rfl (r_next (by omega) h4) (fun r_ m_ hc_ => ?_)
        obtain ⟨rfl, f1, rfl, h5⟩ := hc_
        refine Rn.step (pc' := 78) rfl rfl ?_
        refine Rn.step (pc' := 79) rfl rfl ?_
        refine Rn.callV (pc' := 82) rfl (by decide) (by omega) rfl rfl rfl (r_sum (by omega) hS h5 (by omega)) (fun r_ m_ hc_ => ?_)
        obtain ⟨F4, I4, rfl, c4, g4⟩ := hc_
        cases ev2 : gSu T n (gAd T n (a.1, a.2.1 + 1, a.2.2)) with
        | inl e9 =>
          rw [ev2] at g4
          obtain ⟨rfl, g5⟩ := g4
          refine Rn.ifc_ne (pc1 := 87) (pc2 := 85) rfl rfl rfl (fun h82 => absurd h82 (fun z => z rfl)) (fun h82 => ?_)
          refine Rn.iconst (v := 0) (pc' := 86) rfl (by decide) rfl ?_
          exact Rn.iret rfl (rfl) (⟨F4, I4, rfl, ((c2.trans c3).f1 f1).trans c4, rfl, g5⟩)
        | inr z =>
          rw [ev2] at g4
          obtain ⟨rfl, h6⟩ := g4
          have bz2 := gSu_b hT (nx_le bz.2.1) ev2
          have bi := h.2.2.2.1
          refine Rn.ifc_ne (pc1 := 87) (pc2 := 85) rfl rfl rfl (fun h82 => ?_) (fun h82 => absurd h82 (by decide))
          refine Rn.step (pc' := 88) rfl rfl ?_
          refine Rn.step (pc' := 90) rfl rfl ?_
          refine Rn.vv (pc' := 93) rfl (by decide) (by omega) rfl rfl rfl (r_put (cmE T n a.1, 0) h6 (by omega)) ?_
          refine Rn.iconst (v := 1) (pc' := 94) rfl (by decide) rfl ?_
          exact Rn.iret rfl (rfl) (⟨_, _, rfl, (((c2.trans c3).f1 f1).trans c4).trans ⟨fun k _ b => up_ne _ _ b, fun k a => up_ne _ _ a, rfl⟩, rfl, h6.put⟩)
      · obtain ⟨F3, I3, rfl, c3, rfl, g3⟩ := hc_.2 hk
        rw [show gPa a _ = _ from if_neg hk]
        refine Rn.ifc_ne (pc1 := 73) (pc2 := 71) rfl rfl rfl (fun h68 => absurd h68 (fun z => z rfl)) (fun h68 => ?_)
        refine Rn.iconst (v := 0) (pc' := 72) rfl (by decide) rfl ?_
        exact Rn.iret rfl (rfl) (⟨F3, I3, rfl, c2.trans c3, rfl, g3⟩)
theorem r_inner0 {b : Int32} (h : RS F I T n t) (hd : 1 ≤ d) : Cl d j_RuleReader_inner [.ref 3, .ref 1, .int (nI 10), .int b] (CC m0 F I L R H) (gO m0 F I L R H T n (gFl t 2)) := by
  show Rn d j_RuleReader_inner 0 _ _ _ _
  refine Rn.step (pc' := 1) rfl rfl ?_
  refine Rn.iconst (v := 10) (pc' := 3) rfl (by decide) rfl ?_
  refine Rn.icmp_lt (pc1 := 12) (pc2 := 6) rfl rfl rfl (fun h3 => absurd h3 (by decide)) (fun h3 => ?_)
  refine Rn.step (pc' := 7) rfl rfl ?_
  refine Rn.iconst (v := 2) (pc' := 8) rfl (by decide) rfl ?_
  refine Rn.vi (pc' := 11) rfl (by decide) (by omega) rfl rfl rfl (r_fail 2 h) ?_
  exact Rn.iret rfl (rfl) (r_failO 2 (fun z => .inr z))
theorem r_innerN {K D : Nat} {fa : gS → gR} (hD : D < 10) (hd : K + 2 ≤ d ∧ 10 ≤ d) (hS : STR0 m0) (hfa : ∀ d1, K ≤ d1 → ∀ (F I : Nat → Nat → Int32) (t : gS), RS F I T n t → t.2.2.length ≤ t.1 → Cl d1 j_RuleReader_fact [.ref 3, .ref 1, .int (nI (D + 1))] (CC m0 F I L R H) (gO m0 F I L R H T n (fa t))) (hfb : ∀ s s', s.1 ≤ n → fa s = .inr s' → gB n s s') (h : RS F I T n t) (hb : t.2.2.length ≤ t.1) (k0 : ¬ kdE T n t.1 = 0) : Cl d j_RuleReader_inner [.ref 3, .ref 1, .int (nI D), .int 1] (CC m0 F I L R H) (gO m0 F I L R H T n (gBd (fa (gAd T n t)) (fun z => .inr (gPt (11, 0) z)))) := by
  have hx := nx_gt h.2.2.2.2.1 h.2.2.1 k0
  have hx2 := nx_le (T := T) h.2.2.1
  have q1 : (gAd T n t).1 = nxE T n t.1 := rfl
  have q2 : (gAd T n t).2.2.length = t.2.2.length := rfl
  show Rn d j_RuleReader_inner 0 _ _ _ _
  refine Rn.step (pc' := 1) rfl rfl ?_
  refine Rn.iconst (v := 10) (pc' := 3) rfl (by decide) rfl ?_
  refine Rn.icmp_lt (pc1 := 12) (pc2 := 6) rfl rfl rfl (fun h3 => ?_) (fun h3 => absurd ((nI_ltI (a := D) (b := 10) (by omega) (by omega)).mpr hD) h3)
  refine Rn.step (pc' := 13) rfl rfl ?_
  refine Rn.callV (pc' := 16) rfl (by decide) (by omega) rfl rfl rfl (r_next (by omega) h) (fun r_ m_ hc_ => ?_)
  obtain ⟨rfl, f1, rfl, h2⟩ := hc_
  refine Rn.step (pc' := 17) rfl rfl ?_
  refine Rn.ifc_eq (pc1 := 41) (pc2 := 20) rfl rfl rfl (fun h17 => absurd h17 (by decide)) (fun h17 => ?_)
  refine Rn.step (pc' := 21) rfl rfl ?_
  refine Rn.step (pc' := 22) rfl rfl ?_
  refine Rn.step (pc' := 23) rfl rfl ?_
  refine Rn.iconst (v := 1) (pc' := 24) rfl (by decide) rfl ?_
  refine Rn.iadd (pc' := 25) rfl rfl ?_
  rw [show nI D + 1 = nI (D + 1) from nI_add D 1]
  refine Rn.callV (pc' := 28) rfl (by decide) (by omega) rfl rfl rfl (hfa _ (by omega) _ _ _ h2 (by omega)) (fun r_ m_ hc_ => ?_)
  obtain ⟨F2, I2, rfl, c2, g2⟩ := hc_
  cases ev : fa (gAd T n t) with
  | inl e9 =>
    rw [ev] at g2
    obtain ⟨rfl, g3⟩ := g2
    refine Rn.ifc_ne (pc1 := 33) (pc2 := 31) rfl rfl rfl (fun h28 => absurd h28 (fun z => z rfl)) (fun h28 => ?_)
    refine Rn.iconst (v := 0) (pc' := 32) rfl (by decide) rfl ?_
    exact Rn.iret rfl (rfl) (⟨F2, I2, rfl, (((cFI.rfl F I).f1 f1).trans c2), rfl, g3⟩)
  | inr z =>
    rw [ev] at g2
    obtain ⟨rfl, h3⟩ := g2
    have bz := hfb _ _ (show (gAd T n t).1 ≤ n from hx2) ev
    unfold gB at bz
    have bi := h.2.2.2.1
    refine Rn.ifc_ne (pc1 := 33) (pc2 := 31) rfl rfl rfl (fun h28 => ?_) (fun h28 => absurd h28 (by decide))
    refine Rn.step (pc' := 34) rfl rfl ?_
    refine Rn.iconst (v := 16) (pc' := 36) rfl (by decide) rfl ?_
    refine Rn.vv (pc' := 39) rfl (by decide) (by omega) rfl rfl rfl (r_put (11, 0) h3 (by omega)) ?_
    refine Rn.iconst (v := 1) (pc' := 40) rfl (by decide) rfl ?_
    exact Rn.iret rfl (rfl) (⟨_, _, rfl, (((cFI.rfl F I).f1 f1).trans c2).trans ⟨fun k _ b => up_ne _ _ b, fun k a => up_ne _ _ a, rfl⟩, rfl, h3.put⟩)
theorem r_innerB {K D : Nat} {fa : gS → gR} (hD : D < 10) (hd : K + 2 ≤ d ∧ 10 ≤ d) (hS : STR0 m0) (hfa : ∀ d1, K ≤ d1 → ∀ (F I : Nat → Nat → Int32) (t : gS), RS F I T n t → t.2.2.length ≤ t.1 → Cl d1 j_RuleReader_fact [.ref 3, .ref 1, .int (nI (D + 1))] (CC m0 F I L R H) (gO m0 F I L R H T n (fa t))) (hfb : ∀ s s', s.1 ≤ n → fa s = .inr s' → gB n s s') (h : RS F I T n t) (hb : t.2.2.length ≤ t.1) (k0 : ¬ kdE T n t.1 = 0) : Cl d j_RuleReader_inner [.ref 3, .ref 1, .int (nI D), .int 0] (CC m0 F I L R H) (gO m0 F I L R H T n (gBd (gTs T n fa (gAd T n t)) (fun z => if sgE T n z.1 93 then .inr (gAd T n z) else gFl z 0))) := by
  have hx := nx_gt h.2.2.2.2.1 h.2.2.1 k0
  have hx2 := nx_le (T := T) h.2.2.1
  have q1 : (gAd T n t).1 = nxE T n t.1 := rfl
  have q2 : (gAd T n t).2.2.length = t.2.2.length := rfl
  show Rn d j_RuleReader_inner 0 _ _ _ _
  refine Rn.step (pc' := 1) rfl rfl ?_
  refine Rn.iconst (v := 10) (pc' := 3) rfl (by decide) rfl ?_
  refine Rn.icmp_lt (pc1 := 12) (pc2 := 6) rfl rfl rfl (fun h3 => ?_) (fun h3 => absurd ((nI_ltI (a := D) (b := 10) (by omega) (by omega)).mpr hD) h3)
  refine Rn.step (pc' := 13) rfl rfl ?_
  refine Rn.callV (pc' := 16) rfl (by decide) (by omega) rfl rfl rfl (r_next (by omega) h) (fun r_ m_ hc_ => ?_)
  obtain ⟨rfl, f1, rfl, h2⟩ := hc_
  refine Rn.step (pc' := 17) rfl rfl ?_
  refine Rn.ifc_eq (pc1 := 41) (pc2 := 20) rfl rfl rfl (fun h17 => ?_) (fun h17 => absurd (rfl) h17)
  refine Rn.step (pc' := 42) rfl rfl ?_
  refine Rn.step (pc' := 43) rfl rfl ?_
  refine Rn.step (pc' := 44) rfl rfl ?_
  refine Rn.iconst (v := 1) (pc' := 45) rfl (by decide) rfl ?_
  refine Rn.iadd (pc' := 46) rfl rfl ?_
  rw [show nI D + 1 = nI (D + 1) from nI_add D 1]
  refine Rn.callV (pc' := 49) rfl (by decide) (by omega) rfl rfl rfl (r_test (by omega) hS (fun F I t a b => hfa _ (by omega) F I t a b) hfb h2 (by omega)) (fun r_ m_ hc_ => ?_)
  obtain ⟨F2, I2, rfl, c2, g2⟩ := hc_
  cases ev : gTs T n fa (gAd T n t) with
  | inl e9 =>
    rw [ev] at g2
    obtain ⟨rfl, g3⟩ := g2
    refine Rn.ifc_ne (pc1 := 54) (pc2 := 52) rfl rfl rfl (fun h49 => absurd h49 (fun z => z rfl)) (fun h49 => ?_)
    refine Rn.iconst (v := 0) (pc' := 53) rfl (by decide) rfl ?_
    exact Rn.iret rfl (rfl) (⟨F2, I2, rfl, (((cFI.rfl F I).f1 f1).trans c2), rfl, g3⟩)
  | inr z =>
    rw [ev] at g2
    obtain ⟨rfl, h3⟩ := g2
    show Rn _ _ _ _ _ _ (gO m0 F I L R H T n (if sgE T n z.1 93 then .inr (gAd T n z) else gFl z 0))
    refine Rn.ifc_ne (pc1 := 54) (pc2 := 52) rfl rfl rfl (fun h49 => ?_) (fun h49 => absurd h49 (by decide))
    refine Rn.step (pc' := 55) rfl rfl ?_
    refine Rn.iconst (v := 93) (pc' := 57) rfl (by decide) rfl ?_
    refine Rn.vi (pc' := 60) rfl (by decide) (by omega) rfl rfl rfl (r_sign 93 h3) ?_
    refine Rn.ifp_ne (pc1 := 69) (pc2 := 63) rfl rfl rfl (fun h60 => ?_) (fun h60 => ?_)
    · refine Rn.step (pc' := 70) rfl rfl ?_
      refine Rn.callV (pc' := 73) rfl (by decide) (by omega) rfl rfl rfl (r_next (by omega) h3) (fun r_ m_ hc_ => ?_)
      obtain ⟨rfl, f2, rfl, h4⟩ := hc_
      refine Rn.iconst (v := 1) (pc' := 74) rfl (by decide) rfl ?_
      exact Rn.iret rfl (rfl) (by rw [if_pos h60]; exact ⟨_, _, rfl, (((cFI.rfl F I).f1 f1).trans c2).f1 f2, rfl, h4⟩)
    · refine Rn.step (pc' := 64) rfl rfl ?_
      refine Rn.iconst (v := 0) (pc' := 65) rfl (by decide) rfl ?_
      refine Rn.vi (pc' := 68) rfl (by decide) (by omega) rfl rfl rfl (r_fail 0 h3) ?_
      exact Rn.iret rfl (rfl) (by rw [if_neg h60]; exact (r_failO 0 (fun z => .inr z)).mono (((cFI.rfl F I).f1 f1).trans c2))
set_option maxHeartbeats 4000000 in
theorem r_fact (hS : STR0 m0) : ∀ (e d D : Nat) (F I : Nat → Nat → Int32) (t : gS), D + e = 10 → 3 * e + 10 ≤ d → RS F I T n t → t.2.2.length ≤ t.1 → Cl d j_RuleReader_fact [.ref 3, .ref 1, .int (nI D)] (CC m0 F I L R H) (gO m0 F I L R H T n (gFa T n e t))
  | 0, d, D, F, I, t, hD, hd, h, hb => by
    have hT := h.2.2.2.2.1
    obtain rfl : D = 10 := by omega
    show Rn d j_RuleReader_fact 0 _ _ _ _
    refine Rn.step (pc' := 1) rfl rfl ?_
    refine Rn.step (pc' := 3) rfl rfl ?_
    refine Rn.vi (pc' := 6) rfl (by decide) (by omega) rfl rfl rfl (r_w4 (by omega) hS h) ?_
    refine Rn.ifc_ne (pc1 := 13) (pc2 := 9) rfl rfl rfl (fun h6 => ?_) (fun h6 => ?_)
    · refine Rn.iconst (v := 0) (pc' := 14) rfl (by decide) rfl ?_
      refine Rn.step (pc' := 15) rfl rfl ?_
      refine Rn.step (pc' := 16) rfl rfl ?_
      refine Rn.ifc_ne (pc1 := 28) (pc2 := 19) rfl rfl rfl (fun h16 => absurd h16 (fun z => z rfl)) (fun h16 => ?_)
      refine Rn.step (pc' := 20) rfl rfl ?_
      refine Rn.iconst (v := 91) (pc' := 22) rfl (by decide) rfl ?_
      refine Rn.vi (pc' := 25) rfl (by decide) (by omega) rfl rfl rfl (r_sign 91 h) ?_
      refine Rn.ifp_eq (pc1 := 36) (pc2 := 28) rfl rfl rfl (fun h25 => ?_) (fun h25 => ?_)
      · rw [show gFa T n 0 t = gCm T n t from (if_neg h6).trans (if_neg h25)]
        exact l_F36 (by omega) hS h hb
      · rw [show gFa T n 0 t = gFl t 2 from (if_neg h6).trans (if_pos h25)]
        have k0 : ¬ kdE T n t.1 = 0 := by rw [h25.1]; decide
        refine Rn.step (pc' := 29) rfl rfl ?_
        refine Rn.step (pc' := 30) rfl rfl ?_
        refine Rn.step (pc' := 31) rfl rfl ?_
        refine Rn.step (pc' := 32) rfl rfl ?_
        refine Rn.callV (pc' := 35) rfl (by decide) (by omega) rfl rfl rfl (r_inner0 h (by omega)) (fun r_ m_ hc_ => ?_)
        obtain ⟨b, rfl, hb01⟩ := hc_.ret
        exact Rn.iret rfl (nar_b hb01) (hc_)
    · rw [show gFa T n 0 t = gFl t 2 from if_pos h6]
      have k0 : ¬ kdE T n t.1 = 0 := wx_kd hT ws4 (by decide) (fun z => by rw [h6] at z; exact absurd z (by decide))
      refine Rn.iconst (v := 1) (pc' := 10) rfl (by decide) rfl ?_
      refine Rn.step (pc' := 14) rfl rfl ?_
      refine Rn.step (pc' := 15) rfl rfl ?_
      refine Rn.step (pc' := 16) rfl rfl ?_
      refine Rn.ifc_ne (pc1 := 28) (pc2 := 19) rfl rfl rfl (fun h16 => ?_) (fun h16 => absurd h16 (by decide))
      refine Rn.step (pc' := 29) rfl rfl ?_
      refine Rn.step (pc' := 30) rfl rfl ?_
      refine Rn.step (pc' := 31) rfl rfl ?_
      refine Rn.step (pc' := 32) rfl rfl ?_
      refine Rn.callV (pc' := 35) rfl (by decide) (by omega) rfl rfl rfl (r_inner0 h (by omega)) (fun r_ m_ hc_ => ?_)
      obtain ⟨b, rfl, hb01⟩ := hc_.ret
      exact Rn.iret rfl (nar_b hb01) (hc_)
  | e + 1, d, D, F, I, t, hD, hd, h, hb => by
    have hT := h.2.2.2.2.1
    show Rn d j_RuleReader_fact 0 _ _ _ _
    refine Rn.step (pc' := 1) rfl rfl ?_
    refine Rn.step (pc' := 3) rfl rfl ?_
    refine Rn.vi (pc' := 6) rfl (by decide) (by omega) rfl rfl rfl (r_w4 (by omega) hS h) ?_
    refine Rn.ifc_ne (pc1 := 13) (pc2 := 9) rfl rfl rfl (fun h6 => ?_) (fun h6 => ?_)
    · refine Rn.iconst (v := 0) (pc' := 14) rfl (by decide) rfl ?_
      refine Rn.step (pc' := 15) rfl rfl ?_
      refine Rn.step (pc' := 16) rfl rfl ?_
      refine Rn.ifc_ne (pc1 := 28) (pc2 := 19) rfl rfl rfl (fun h16 => absurd h16 (fun z => z rfl)) (fun h16 => ?_)
      refine Rn.step (pc' := 20) rfl rfl ?_
      refine Rn.iconst (v := 91) (pc' := 22) rfl (by decide) rfl ?_
      refine Rn.vi (pc' := 25) rfl (by decide) (by omega) rfl rfl rfl (r_sign 91 h) ?_
      refine Rn.ifp_eq (pc1 := 36) (pc2 := 28) rfl rfl rfl (fun h25 => ?_) (fun h25 => ?_)
      · rw [show gFa T n (e + 1) t = gCm T n t from (if_neg h6).trans (if_neg h25)]
        exact l_F36 (by omega) hS h hb
      · rw [show gFa T n (e + 1) t = gBd (gTs T n (gFa T n e) (gAd T n t)) (fun z => if sgE T n z.1 93 then .inr (gAd T n z) else gFl z 0) from (if_neg h6).trans (if_pos h25)]
        have k0 : ¬ kdE T n t.1 = 0 := by rw [h25.1]; decide
        refine Rn.step (pc' := 29) rfl rfl ?_
        refine Rn.step (pc' := 30) rfl rfl ?_
        refine Rn.step (pc' := 31) rfl rfl ?_
        refine Rn.step (pc' := 32) rfl rfl ?_
        refine Rn.callV (pc' := 35) rfl (by decide) (by omega) rfl rfl rfl (r_innerB (K := 3 * e + 10) (D := D) (fa := gFa T n e) (by omega) (by omega) hS (fun d1 hd1 F I t a b => r_fact hS e d1 (D + 1) F I t (by omega) hd1 a b) (gFa_b hT e) h hb k0) (fun r_ m_ hc_ => ?_)
        obtain ⟨b, rfl, hb01⟩ := hc_.ret
        exact Rn.iret rfl (nar_b hb01) (hc_)
    · rw [show gFa T n (e + 1) t = gBd (gFa T n e (gAd T n t)) (fun z => .inr (gPt (11, 0) z)) from if_pos h6]
      have k0 : ¬ kdE T n t.1 = 0 := wx_kd hT ws4 (by decide) (fun z => by rw [h6] at z; exact absurd z (by decide))
      refine Rn.iconst (v := 1) (pc' := 10) rfl (by decide) rfl ?_
      refine Rn.step (pc' := 14) rfl rfl ?_
      refine Rn.step (pc' := 15) rfl rfl ?_
      refine Rn.step (pc' := 16) rfl rfl ?_
      refine Rn.ifc_ne (pc1 := 28) (pc2 := 19) rfl rfl rfl (fun h16 => ?_) (fun h16 => absurd h16 (by decide))
      refine Rn.step (pc' := 29) rfl rfl ?_
      refine Rn.step (pc' := 30) rfl rfl ?_
      refine Rn.step (pc' := 31) rfl rfl ?_
      refine Rn.step (pc' := 32) rfl rfl ?_
      refine Rn.callV (pc' := 35) rfl (by decide) (by omega) rfl rfl rfl (r_innerN (K := 3 * e + 10) (D := D) (fa := gFa T n e) (by omega) (by omega) hS (fun d1 hd1 F I t a b => r_fact hS e d1 (D + 1) F I t (by omega) hd1 a b) (gFa_b hT e) h hb k0) (fun r_ m_ hc_ => ?_)
      obtain ⟨b, rfl, hb01⟩ := hc_.ret
      exact Rn.iret rfl (nar_b hb01) (hc_)
end RW
end DC
