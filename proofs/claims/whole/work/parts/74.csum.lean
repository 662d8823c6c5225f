/-! THE GRAMMAR: SUMS; the class: VALUES, SUMS. -/
section CZ
variable {m0 : xM} {F I : Nat → Nat → Int32} {L : Nat → Nat → Int64} {R : Nat → Nat → Option Nat} {H : Value} {s w : Nat → Int32} {o : Nat} {gg : Prop}
/-- the sign that reckons here, as the model numbers it; 0: none -/
def rkE (T : Nat → Int32) (n p : Nat) : Nat := if kdE T n p = 3 then (if vlE T n p = 43 then 2 else if vlE T n p = 45 then 3 else if vlE T n p = 42 then 4 else if vlE T n p = 47 then 5 else if vlE T n p = 37 then 14 else 0) else 0
def cmE (T : Nat → Int32) (n p : Nat) : Nat := if kdE T n p = 3 then (if vlE T n p = 60 then 6 else if vlE T n p = 316 then 7 else if vlE T n p = 61 then 8 else if vlE T n p = 318 then 9 else if vlE T n p = 62 then 10 else 0) else 0
def stV (t : Nat) : Int32 := if t = 0 then -1 else nI (csC t)
def gFs (wt : Nat) (s : gS) : gS := if wt = 0 then s else gPt (wt, 0) s
def gSl (T : Nat → Int32) (n : Nat) : Nat → Nat → gS → gR
  | 0, _, _ => .inl 0
  | f + 1, wt, s => if rkE T n s.1 = 0 then .inr (gFs wt s) else if rkE T n s.1 = 2 ∨ rkE T n s.1 = 3 then gBd (gVa T n (gAd T n (gFs wt s))) (fun z => gSl T n f (rkE T n s.1) z) else gBd (gVa T n (gAd T n s)) (fun z => gSl T n f wt (gPt (rkE T n s.1, 0) z))
def gSu (T : Nat → Int32) (n : Nat) (s : gS) : gR := gBd (gVa T n s) (gSl T n (n + 1) 0)
section GV
variable {T : Nat → Int32} {n : Nat} {t s' : gS}
theorem gPa_r {x : gS → gS} (h : gPa t (fun z => .inr (x z)) = .inr s') : t.2.1 < 60 ∧ s' = x (t.1, t.2.1 + 1, t.2.2) := by
  unfold gPa at h
  by_cases hk : t.2.1 < 60
  · rw [if_pos hk] at h
    exact ⟨hk, (Sum.inr.inj h).symm⟩
  · rw [if_neg hk] at h
    exact nomatch h
theorem wdP_kd {p : Nat} (hT : ∀ i, -128 ≤ T i ∧ T i ≤ 127) (h : ¬ wix T p (leE T n p) ws2 0 < 0) : kdE T n p = 1 := by
  by_cases k : kdE T n p = 1
  · exact k
  · rw [kd_le hT k, wix_e ws2 0 (by decide)] at h
    exact absurd (by decide) h
theorem gVa_b (hT : ∀ i, -128 ≤ T i ∧ T i ≤ 127) (hp : t.1 ≤ n) (h : gVa T n t = .inr s') : t.1 < s'.1 ∧ s'.1 ≤ n ∧ s'.2.2.length = t.2.2.length + 1 ∧ t.1 < n := by
  unfold gVa at h
  by_cases k2 : kdE T n t.1 = 2
  · rw [if_pos k2] at h
    by_cases k5 : tkE T n t.1 - t.1 ≤ 5
    · rw [if_pos k5] at h
      obtain ⟨_, rfl⟩ := gPa_r h
      have k0 : ¬ kdE T n t.1 = 0 := by omega
      exact ⟨(nx_gt hT hp k0).2, nx_le hp, by simp only [gAd, gPt, List.length_append, List.length_singleton], Nat.lt_of_not_le (fun z => k0 (kd0 z))⟩
    · rw [if_neg k5] at h
      exact nomatch h
  · rw [if_neg k2] at h
    by_cases k5 : wix T t.1 (leE T n t.1) ws2 0 < 0
    · rw [if_pos k5] at h
      exact nomatch h
    · rw [if_neg k5] at h
      obtain ⟨_, rfl⟩ := gPa_r h
      have k0 : ¬ kdE T n t.1 = 0 := by rw [wdP_kd hT k5]; decide
      exact ⟨(nx_gt hT hp k0).2, nx_le hp, by simp only [gAd, gPt, List.length_append, List.length_singleton], Nat.lt_of_not_le (fun z => k0 (kd0 z))⟩
theorem rk_in (p : Nat) : rkE T n p = 0 ∨ rkE T n p = 2 ∨ rkE T n p = 3 ∨ rkE T n p = 4 ∨ rkE T n p = 5 ∨ rkE T n p = 14 := by
  unfold rkE
  repeat' split
  all_goals omega
theorem rk_kd {p : Nat} (h : ¬ rkE T n p = 0) : ¬ kdE T n p = 0 := fun z => h (by unfold rkE; rw [z]; rfl)
end GV
theorem sw_rng (x : Int32) (lo hi : Nat) (hh : hi < 2 ^ 31) : (x.toInt < (lo : Int) ∨ (hi : Int) < x.toInt) ∨ ∃ k, lo ≤ k ∧ k ≤ hi ∧ x = nI k := by
  by_cases h : x.toInt < (lo : Int) ∨ (hi : Int) < x.toInt
  · exact Or.inl h
  · right
    have h0 : (0 : Int32).toInt = 0 := by decide
    obtain ⟨j, hj, rfl⟩ := nI_of (x := x) (by rw [Int32.lt_iff_toInt_lt]; omega)
    rw [nI_toInt hj] at h
    exact ⟨j, by omega, by omega, rfl⟩
theorem sw_no {x : Int32} {lo hi : Nat} (h : x.toInt < (lo : Int) ∨ (hi : Int) < x.toInt) (hh : hi < 2 ^ 31) {k : Nat} (h1 : lo ≤ k) (h2 : k ≤ hi) : ¬ x = nI k := fun z => by
  rw [z, nI_toInt (by omega)] at h
  omega
section RT
variable {T : Nat → Int32} {n d : Nat} {t : gS}
theorem r_reck (h : RS F I T n t) : Cl d j_RuleReader_reckoning [.ref 1] (CC m0 F I L R H) (Pi (stV (rkE T n t.1)) (CC m0 F I L R H)) := by
  have hv := h.2.1.2.2.2.2
  have hk := h.2.1.2.1
  show Rn d j_RuleReader_reckoning 0 _ _ _ _
  refine Rn.step (pc' := 1) rfl rfl ?_
  refine Rn.getf (pc' := 4) rfl rfl rfl rfl rfl ?_
  refine Rn.iconst (v := 3) (pc' := 5) rfl (by decide) rfl ?_
  refine Rn.icmp_eq (pc1 := 10) (pc2 := 8) rfl rfl rfl (fun h5 => ?_) (fun h5 => ?_)
  · refine Rn.step (pc' := 11) rfl rfl ?_
    refine Rn.getf (pc' := 14) rfl rfl rfl rfl rfl ?_
    have k3 : kdE T n t.1 = 3 := by
      have hb : kdE T n t.1 < 4 := by
        unfold kdE
        repeat' split
        all_goals omega
      exact (nI_eq (a := kdE T n t.1) (b := 3) (by omega) (by omega)).mp (by rw [← hk]; exact h5)
    rw [hv]
    rcases sw_rng (vlE T n t.1) 37 47 (by omega) with hs | ⟨k, a1, a2, e⟩
    · refine Rn.tsd (pc1 := 87) rfl hs rfl ?_
      refine Rn.iconst (v := -1) (pc' := 88) rfl (by decide) rfl ?_
      refine Rn.iret rfl rfl ⟨?_, rfl⟩
      have er : rkE T n t.1 = 0 := by
        unfold rkE
        rw [if_pos k3, if_neg (show ¬ vlE T n t.1 = 43 from sw_no hs (by omega) (k := 43) (by omega) (by omega)), if_neg (show ¬ vlE T n t.1 = 45 from sw_no hs (by omega) (k := 45) (by omega) (by omega)), if_neg (show ¬ vlE T n t.1 = 42 from sw_no hs (by omega) (k := 42) (by omega) (by omega)), if_neg (show ¬ vlE T n t.1 = 47 from sw_no hs (by omega) (k := 47) (by omega) (by omega)), if_neg (show ¬ vlE T n t.1 = 37 from sw_no hs (by omega) (k := 37) (by omega) (by omega))]
      rw [er]
      rfl
    · obtain rfl | rfl | rfl | rfl | rfl | rfl | rfl | rfl | rfl | rfl | rfl : k = 37 ∨ k = 38 ∨ k = 39 ∨ k = 40 ∨ k = 41 ∨ k = 42 ∨ k = 43 ∨ k = 44 ∨ k = 45 ∨ k = 46 ∨ k = 47 := by omega
      · rw [e]
        refine Rn.tsw (pc1 := 84) rfl (by decide) rfl rfl ?_
        refine Rn.iconst (v := 21) (pc' := 86) rfl (by decide) rfl ?_
        exact Rn.iret rfl rfl ⟨by rw [show rkE T n t.1 = 14 by unfold rkE; rw [if_pos k3, e]; rfl]; rfl, rfl⟩
      · rw [e]
        refine Rn.tsw (pc1 := 87) rfl (by decide) rfl rfl ?_
        refine Rn.iconst (v := -1) (pc' := 88) rfl (by decide) rfl ?_
        exact Rn.iret rfl rfl ⟨by rw [show rkE T n t.1 = 0 by unfold rkE; rw [if_pos k3, e]; rfl]; rfl, rfl⟩
      · rw [e]
        refine Rn.tsw (pc1 := 87) rfl (by decide) rfl rfl ?_
        refine Rn.iconst (v := -1) (pc' := 88) rfl (by decide) rfl ?_
        exact Rn.iret rfl rfl ⟨by rw [show rkE T n t.1 = 0 by unfold rkE; rw [if_pos k3, e]; rfl]; rfl, rfl⟩
      · rw [e]
        refine Rn.tsw (pc1 := 87) rfl (by decide) rfl rfl ?_
        refine Rn.iconst (v := -1) (pc' := 88) rfl (by decide) rfl ?_
        exact Rn.iret rfl rfl ⟨by rw [show rkE T n t.1 = 0 by unfold rkE; rw [if_pos k3, e]; rfl]; rfl, rfl⟩
      · rw [e]
        refine Rn.tsw (pc1 := 87) rfl (by decide) rfl rfl ?_
        refine Rn.iconst (v := -1) (pc' := 88) rfl (by decide) rfl ?_
        exact Rn.iret rfl rfl ⟨by rw [show rkE T n t.1 = 0 by unfold rkE; rw [if_pos k3, e]; rfl]; rfl, rfl⟩
      · rw [e]
        refine Rn.tsw (pc1 := 78) rfl (by decide) rfl rfl ?_
        refine Rn.iconst (v := 19) (pc' := 80) rfl (by decide) rfl ?_
        exact Rn.iret rfl rfl ⟨by rw [show rkE T n t.1 = 4 by unfold rkE; rw [if_pos k3, e]; rfl]; rfl, rfl⟩
      · rw [e]
        refine Rn.tsw (pc1 := 72) rfl (by decide) rfl rfl ?_
        refine Rn.iconst (v := 17) (pc' := 74) rfl (by decide) rfl ?_
        exact Rn.iret rfl rfl ⟨by rw [show rkE T n t.1 = 2 by unfold rkE; rw [if_pos k3, e]; rfl]; rfl, rfl⟩
      · rw [e]
        refine Rn.tsw (pc1 := 87) rfl (by decide) rfl rfl ?_
        refine Rn.iconst (v := -1) (pc' := 88) rfl (by decide) rfl ?_
        exact Rn.iret rfl rfl ⟨by rw [show rkE T n t.1 = 0 by unfold rkE; rw [if_pos k3, e]; rfl]; rfl, rfl⟩
      · rw [e]
        refine Rn.tsw (pc1 := 75) rfl (by decide) rfl rfl ?_
        refine Rn.iconst (v := 18) (pc' := 77) rfl (by decide) rfl ?_
        exact Rn.iret rfl rfl ⟨by rw [show rkE T n t.1 = 3 by unfold rkE; rw [if_pos k3, e]; rfl]; rfl, rfl⟩
      · rw [e]
        refine Rn.tsw (pc1 := 87) rfl (by decide) rfl rfl ?_
        refine Rn.iconst (v := -1) (pc' := 88) rfl (by decide) rfl ?_
        exact Rn.iret rfl rfl ⟨by rw [show rkE T n t.1 = 0 by unfold rkE; rw [if_pos k3, e]; rfl]; rfl, rfl⟩
      · rw [e]
        refine Rn.tsw (pc1 := 81) rfl (by decide) rfl rfl ?_
        refine Rn.iconst (v := 20) (pc' := 83) rfl (by decide) rfl ?_
        exact Rn.iret rfl rfl ⟨by rw [show rkE T n t.1 = 5 by unfold rkE; rw [if_pos k3, e]; rfl]; rfl, rfl⟩
  · refine Rn.iconst (v := (-1)) (pc' := 9) rfl (by decide) rfl ?_
    exact Rn.iret rfl (rfl) (⟨by unfold stV; rw [show rkE T n t.1 = 0 from if_neg (fun z => h5 (by rw [hk, z]; rfl))]; rfl, rfl⟩)
theorem r_comp (h : RS F I T n t) : Cl d j_RuleReader_comparing [.ref 1] (CC m0 F I L R H) (Pi (stV (cmE T n t.1)) (CC m0 F I L R H)) := by
  have hv := h.2.1.2.2.2.2
  have hk := h.2.1.2.1
  show Rn d j_RuleReader_comparing 0 _ _ _ _
  refine Rn.step (pc' := 1) rfl rfl ?_
  refine Rn.getf (pc' := 4) rfl rfl rfl rfl rfl ?_
  refine Rn.iconst (v := 3) (pc' := 5) rfl (by decide) rfl ?_
  refine Rn.icmp_eq (pc1 := 10) (pc2 := 8) rfl rfl rfl (fun h5 => ?_) (fun h5 => ?_)
  · refine Rn.step (pc' := 11) rfl rfl ?_
    refine Rn.getf (pc' := 14) rfl rfl rfl rfl rfl ?_
    have k3 : kdE T n t.1 = 3 := by
      have hb : kdE T n t.1 < 4 := by
        unfold kdE
        repeat' split
        all_goals omega
      exact (nI_eq (a := kdE T n t.1) (b := 3) (by omega) (by omega)).mp (by rw [← hk]; exact h5)
    rw [hv]
    by_cases c60 : vlE T n t.1 = 60
    · rw [c60]
      refine Rn.step (pc' := 64) rfl rfl ?_
      refine Rn.iconst (v := 22) (pc' := 66) rfl (by decide) rfl ?_
      exact Rn.iret rfl rfl ⟨by rw [show cmE T n t.1 = 6 by unfold cmE; rw [if_pos k3, c60]; rfl]; rfl, rfl⟩
    by_cases c61 : vlE T n t.1 = 61
    · rw [c61]
      refine Rn.step (pc' := 70) rfl rfl ?_
      refine Rn.iconst (v := 24) (pc' := 72) rfl (by decide) rfl ?_
      exact Rn.iret rfl rfl ⟨by rw [show cmE T n t.1 = 8 by unfold cmE; rw [if_pos k3, c61]; rfl]; rfl, rfl⟩
    by_cases c62 : vlE T n t.1 = 62
    · rw [c62]
      refine Rn.step (pc' := 76) rfl rfl ?_
      refine Rn.iconst (v := 26) (pc' := 78) rfl (by decide) rfl ?_
      exact Rn.iret rfl rfl ⟨by rw [show cmE T n t.1 = 10 by unfold cmE; rw [if_pos k3, c62]; rfl]; rfl, rfl⟩
    by_cases c316 : vlE T n t.1 = 316
    · rw [c316]
      refine Rn.step (pc' := 67) rfl rfl ?_
      refine Rn.iconst (v := 23) (pc' := 69) rfl (by decide) rfl ?_
      exact Rn.iret rfl rfl ⟨by rw [show cmE T n t.1 = 7 by unfold cmE; rw [if_pos k3, c316]; rfl]; rfl, rfl⟩
    by_cases c318 : vlE T n t.1 = 318
    · rw [c318]
      refine Rn.step (pc' := 73) rfl rfl ?_
      refine Rn.iconst (v := 25) (pc' := 75) rfl (by decide) rfl ?_
      exact Rn.iret rfl rfl ⟨by rw [show cmE T n t.1 = 9 by unfold cmE; rw [if_pos k3, c318]; rfl]; rfl, rfl⟩
    refine Rn.step (pc' := 79) (ls' := _) (st' := _) (m' := _) rfl (by
      show some ((Op.lookupswitch.offset [(60, 64), (61, 70), (62, 76), (316, 67), (318, 73)] 79 (vlE T n t.1).toInt).toNat, _, _, _) = _
      rw [lv_osw (k := 60) c60 (by decide), lv_osw (k := 61) c61 (by decide), lv_osw (k := 62) c62 (by decide), lv_osw (k := 316) c316 (by decide), lv_osw (k := 318) c318 (by decide)]
      rfl) ?_
    refine Rn.iconst (v := -1) (pc' := 80) rfl (by decide) rfl ?_
    exact Rn.iret rfl rfl ⟨by rw [show cmE T n t.1 = 0 by unfold cmE; rw [if_pos k3, if_neg c60, if_neg c316, if_neg c61, if_neg c318, if_neg c62]]; rfl, rfl⟩
  · refine Rn.iconst (v := (-1)) (pc' := 9) rfl (by decide) rfl ?_
    exact Rn.iret rfl (rfl) (⟨by unfold stV; rw [show cmE T n t.1 = 0 from if_neg (fun z => h5 (by rw [hk, z]; rfl))]; rfl, rfl⟩)
theorem l_V51 (c : Nat × Nat) (hd : 2 ≤ d) (h : RS F I T n t) (hl : t.2.2.length < 400) : Rn d j_RuleReader_value 51 [.ref 3, .ref 1, .int (nI (csN c))] [] (CC m0 F I L R H) (gO m0 F I L R H T n (gPa t (fun z => .inr (gAd T n (gPt c z))))) := by
  by_cases hk : t.2.1 < 60
  · rw [show gPa t (fun z => .inr (gAd T n (gPt c z))) = .inr (gAd T n (gPt c (t.1, t.2.1 + 1, t.2.2))) from if_pos hk]
    refine Rn.step (pc' := 52) rfl rfl ?_
    refine Rn.step (pc' := 53) rfl rfl ?_
    refine Rn.callV (pc' := 56) rfl (by decide) (by omega) rfl rfl rfl (r_part h (by omega)) (fun r_ m_ hc_ => ?_)
    obtain ⟨rfl, F1, rfl, cf, h1⟩ := hc_.1 hk
    refine Rn.ifc_ne (pc1 := 61) (pc2 := 59) rfl rfl rfl (fun h56 => ?_) (fun h56 => absurd h56 (by decide))
    refine Rn.step (pc' := 62) rfl rfl ?_
    refine Rn.step (pc' := 63) rfl rfl ?_
    refine Rn.vv (pc' := 66) rfl (by decide) (by omega) rfl rfl rfl (r_put c h1 hl) ?_
    refine Rn.step (pc' := 67) rfl rfl ?_
    refine Rn.callV (pc' := 70) rfl (by decide) (by omega) rfl rfl rfl (r_next (by omega) h1.put) (fun r_ m_ hc_ => ?_)
    obtain ⟨rfl, f1, rfl, h3⟩ := hc_
    refine Rn.iconst (v := 1) (pc' := 71) rfl (by decide) rfl ?_
    exact Rn.iret rfl (rfl) (⟨_, _, rfl, cf.trans ⟨fun k a b => (up_ne _ _ a).trans (up_ne _ _ b), fun k a => up_ne _ _ a, rfl⟩, rfl, h3⟩)
  · rw [show gPa t (fun z => .inr (gAd T n (gPt c z))) = gFl t 3 from if_neg hk]
    refine Rn.step (pc' := 52) rfl rfl ?_
    refine Rn.step (pc' := 53) rfl rfl ?_
    refine Rn.callV (pc' := 56) rfl (by decide) (by omega) rfl rfl rfl (r_part h (by omega)) (fun r_ m_ hc_ => ?_)
    obtain ⟨F1, I1, rfl, cf, rfl, h1⟩ := hc_.2 hk
    refine Rn.ifc_ne (pc1 := 61) (pc2 := 59) rfl rfl rfl (fun h56 => absurd h56 (by decide)) (fun h56 => ?_)
    refine Rn.iconst (v := 0) (pc' := 60) rfl (by decide) rfl ?_
    exact Rn.iret rfl (rfl) (⟨F1, I1, rfl, cf, rfl, h1⟩)
theorem r_val (hd : 7 ≤ d) (hS : STR0 m0) (h : RS F I T n t) (hb : t.2.2.length ≤ t.1) : Cl d j_RuleReader_value [.ref 3, .ref 1] (CC m0 F I L R H) (gO m0 F I L R H T n (gVa T n t)) := by
  obtain ⟨rfl, htp, hp, hn, hT, hrest⟩ := id h
  have hk := htp.2.1
  have hv := htp.2.2.2.2
  have hkb : kdE (I 2) n t.1 < 4 := by
    unfold kdE
    repeat' split
    all_goals omega
  have hnl : ¬ kdE (I 2) n t.1 = 0 → t.2.2.length < 400 := fun z => by
    have : t.1 < n := Nat.lt_of_not_le (fun y => z (kd0 y))
    omega
  show Rn d j_RuleReader_value 0 _ _ _ _
  refine Rn.step (pc' := 1) rfl rfl ?_
  refine Rn.getf (pc' := 4) rfl rfl rfl rfl rfl ?_
  refine Rn.iconst (v := 2) (pc' := 5) rfl (by decide) rfl ?_
  refine Rn.icmp_ne (pc1 := 34) (pc2 := 8) rfl rfl rfl (fun h5 => ?_) (fun h5 => ?_)
  · have k2 : ¬ kdE (I 2) n t.1 = 2 := fun z => h5 (by rw [hk, z]; rfl)
    refine Rn.step (pc' := 35) rfl rfl ?_
    refine Rn.step (pc' := 37) rfl rfl ?_
    refine Rn.vi (pc' := 40) rfl (by decide) (by omega) rfl rfl rfl (c_T_w2 (by omega) hS hT htp hn hp) ?_
    refine Rn.step (pc' := 41) rfl rfl ?_
    refine Rn.step (pc' := 42) rfl rfl ?_
    refine Rn.ifc_ge (pc1 := 51) (pc2 := 45) rfl rfl rfl (fun h42 => ?_) (fun h42 => ?_)
    · have hw : ¬ wix (I 2) t.1 (leE (I 2) n t.1) ws2 0 < 0 := Int32.not_lt.mpr h42
      rw [show gVa (I 2) n t = gPa t (fun z => .inr (gAd (I 2) n (gPt (1, (wix (I 2) t.1 (leE (I 2) n t.1) ws2 0).toNatClampNeg) z))) by unfold gVa; rw [if_neg k2, if_neg hw]]
      rcases wix_r (T := I 2) (p := t.1) (q := leE (I 2) n t.1) ws2 0 with e | ⟨j, _, hj, e⟩
      · rw [e] at hw
        exact absurd (by decide) hw
      · have hj2 : j < 15 := by
          have : ws2.length = 15 := rfl
          omega
        rw [e, nI_clamp (by omega)]
        exact l_V51 (1, j) (by omega) h (hnl (by rw [wdP_kd hT hw]; decide))
    · refine Rn.step (pc' := 46) rfl rfl ?_
      refine Rn.iconst (v := 0) (pc' := 47) rfl (by decide) rfl ?_
      refine Rn.vi (pc' := 50) rfl (by decide) (by omega) rfl rfl rfl (r_fail 0 h) ?_
      exact Rn.iret rfl (rfl) (by unfold gVa; rw [if_neg k2, if_pos (Int32.not_le.mp h42)]; exact r_failO 0 (fun z => .inr z))
  · have k2 : kdE (I 2) n t.1 = 2 := (nI_eq (a := kdE (I 2) n t.1) (b := 2) (by omega) (by omega)).mp (by rw [← hk]; exact h5)
    refine Rn.step (pc' := 9) rfl rfl ?_
    refine Rn.vi (pc' := 12) rfl (by decide) (by omega) rfl rfl rfl (c_T_long (p := t.1) (q := tkE (I 2) n t.1) htp.2.2.1 htp.2.2.2.1 (tkE_b hn hp).1 (tkE_b hn hp).2) ?_
    refine Rn.ifq_eq (pc1 := 21) (pc2 := 15) rfl rfl rfl (fun h12 => ?_) (fun h12 => ?_)
    · refine Rn.iconst (v := 15) (pc' := 23) rfl (by decide) rfl ?_
      refine Rn.step (pc' := 24) rfl rfl ?_
      refine Rn.getf (pc' := 27) rfl rfl rfl rfl rfl ?_
      refine Rn.iconst (v := 5) (pc' := 28) rfl (by decide) rfl ?_
      refine Rn.ishl (pc' := 29) rfl rfl ?_
      refine Rn.ior (pc' := 30) rfl rfl ?_
      have e2 := (tz2 k2).2
      have e3 := (tz2 k2).1
      have hdg := dc_dv (T := I 2) (min 5 (rnE 48 57 (I 2) n t.1 - t.1)) t.1 0 (fun k a b => (rnE_in (lo := 48) (hi := 57) (T := I 2) (n := n) (i := t.1) a (by omega)).2)
      have hm : min 5 (rnE 48 57 (I 2) n t.1 - t.1) = tkE (I 2) n t.1 - t.1 := by omega
      have hlt : dcN (I 2) (tkE (I 2) n t.1 - t.1) t.1 0 < 100000 := by
        rw [← hm]
        refine Nat.lt_of_lt_of_le hdg.2 ?_
        rw [Nat.zero_add, Nat.one_mul]
        exact Nat.le_trans (Nat.pow_le_pow_right (by omega) (Nat.min_le_left _ _)) (by decide)
      have e4 : (15 : Int32) ||| (F 1 6 <<< ((5 : Int32) &&& 31)) = nI (csN (0, dcN (I 2) (tkE (I 2) n t.1 - t.1) t.1 0)) := by
        rw [hv, e2, show (0 : Int32) = nI 0 from rfl, hdg.1, hm, or15 hlt]
        rfl
      rw [e4]
      refine Rn.step (pc' := 31) rfl rfl ?_
      refine Rn.step (pc' := 51) rfl rfl ?_
      rw [show gVa (I 2) n t = gPa t (fun z => .inr (gAd (I 2) n (gPt (0, dcN (I 2) (tkE (I 2) n t.1 - t.1) t.1 0) z))) by unfold gVa; rw [if_pos k2, if_pos h12]]
      exact l_V51 (0, dcN (I 2) (tkE (I 2) n t.1 - t.1) t.1 0) (by omega) h (hnl (by omega))
    · refine Rn.step (pc' := 16) rfl rfl ?_
      refine Rn.iconst (v := 1) (pc' := 17) rfl (by decide) rfl ?_
      refine Rn.vi (pc' := 20) rfl (by decide) (by omega) rfl rfl rfl (r_fail 1 h) ?_
      exact Rn.iret rfl (rfl) (by unfold gVa; rw [if_pos k2, if_neg h12]; exact r_failO 1 (fun z => .inr z))
end RT
end CZ
