/-! THE GRAMMAR: FACTS, TESTS; the class: the same. -/
section DB
variable {m0 : xM} {F I : Nat → Nat → Int32} {L : Nat → Nat → Int64} {R : Nat → Nat → Option Nat} {H : Value} {s w : Nat → Int32} {o : Nat} {gg : Prop}
def gCm (T : Nat → Int32) (n : Nat) (s : gS) : gR := gBd (gSu T n s) (fun a => if cmE T n a.1 = 0 then gFl a 0 else gPa a (fun b => gBd (gSu T n (gAd T n b)) (fun c => .inr (gPt (cmE T n a.1, 0) c))))
abbrev isN (T : Nat → Int32) (n p : Nat) : Prop := wix T p (leE T n p) ws4 0 = 0
abbrev sgE (T : Nat → Int32) (n p : Nat) (c : Int32) : Prop := kdE T n p = 3 ∧ vlE T n p = c
def gTl (T : Nat → Int32) (n : Nat) (fa : gS → gR) : Nat → Nat → gS → gR
  | 0, _, _ => .inl 0
  | f + 1, wt, s => if wix T s.1 (leE T n s.1) ws5 0 = 0 then gBd (fa (gAd T n s)) (fun z => gTl T n fa f wt (gPt (12, 0) z)) else if wix T s.1 (leE T n s.1) ws5 0 = 1 then gBd (fa (gAd T n (gFs wt s))) (fun z => gTl T n fa f 13 z) else .inr (gFs wt s)
def gTs (T : Nat → Int32) (n : Nat) (fa : gS → gR) (s : gS) : gR := gBd (fa s) (gTl T n fa (n + 1) 0)
def gFa (T : Nat → Int32) (n : Nat) : Nat → gS → gR
  | 0, s => if isN T n s.1 then gFl s 2 else if sgE T n s.1 91 then gFl s 2 else gCm T n s
  | e + 1, s => if isN T n s.1 then gBd (gFa T n e (gAd T n s)) (fun z => .inr (gPt (11, 0) z)) else if sgE T n s.1 91 then gBd (gTs T n (gFa T n e) (gAd T n s)) (fun z => if sgE T n z.1 93 then .inr (gAd T n z) else gFl z 0) else gCm T n s
/-- more is read than is put -/
def gB (n : Nat) (s s' : gS) : Prop := s.1 < s'.1 ∧ s'.1 ≤ n ∧ s'.2.2.length + s.1 ≤ s.2.2.length + s'.1
section GX
variable {T : Nat → Int32} {n : Nat}
theorem wx_kd {p : Nat} (hT : ∀ i, -128 ≤ T i ∧ T i ≤ 127) (ws : List (List Nat)) (hw : ∀ x, x ∈ ws → x ≠ []) (h : ¬ wix T p (leE T n p) ws 0 = -1) : ¬ kdE T n p = 0 := fun k => by
  have k1 : ¬ kdE T n p = 1 := by omega
  rw [kd_le hT k1, wix_e ws 0 hw] at h
  exact h rfl
theorem gPt_l (t : Nat × Nat) (s : gS) : (gPt t s).2.2.length = s.2.2.length + 1 := by simp only [gPt, List.length_append, List.length_singleton]
theorem cm_kd {p : Nat} (h : ¬ cmE T n p = 0) : ¬ kdE T n p = 0 := fun z => h (by unfold cmE; rw [z]; rfl)
theorem gCm_b (hT : ∀ i, -128 ≤ T i ∧ T i ≤ 127) {s s' : gS} (hp : s.1 ≤ n) (h : gCm T n s = .inr s') : gB n s s' := by
  obtain ⟨a, e1, e2⟩ := gBd_r h
  have b1 := gSu_b hT hp e1
  by_cases c0 : cmE T n a.1 = 0
  · rw [if_pos c0] at e2
    exact nomatch e2
  · rw [if_neg c0] at e2
    unfold gPa at e2
    by_cases k : a.2.1 < 60
    · rw [if_pos k] at e2
      obtain ⟨b, e3, e4⟩ := gBd_r e2
      obtain rfl := Sum.inr.inj e4
      have hx := nx_gt hT b1.2.1 (cm_kd c0)
      have b2 := gSu_b (t := gAd T n (a.1, a.2.1 + 1, a.2.2)) hT (nx_le b1.2.1) e3
      have q1 : (gAd T n (a.1, a.2.1 + 1, a.2.2)).1 = nxE T n a.1 := rfl
      have q2 : (gAd T n (a.1, a.2.1 + 1, a.2.2)).2.2.length = a.2.2.length := rfl
      have q3 := gPt_l (cmE T n a.1, 0) b
      have q4 : (gPt (cmE T n a.1, 0) b).1 = b.1 := rfl
      unfold gB
      omega
    · rw [if_neg k] at e2
      exact nomatch e2
theorem gTl_b (hT : ∀ i, -128 ≤ T i ∧ T i ≤ 127) {fa : gS → gR} (hfa : ∀ s s', s.1 ≤ n → fa s = .inr s' → gB n s s') : ∀ (f wt : Nat) (t s' : gS), t.1 ≤ n → gTl T n fa f wt t = .inr s' → t.1 ≤ s'.1 ∧ s'.1 ≤ n ∧ s'.2.2.length + t.1 ≤ t.2.2.length + gPn wt + s'.1
  | 0, _, _, _, _, h => nomatch h
  | f + 1, wt, t, s', hp, h => by
    have hb := gFs_b wt t
    unfold gTl at h
    by_cases h0 : wix T t.1 (leE T n t.1) ws5 0 = 0
    · rw [if_pos h0] at h
      have k0 := wx_kd hT ws5 (by decide) (fun z => by rw [h0] at z; exact absurd z (by decide))
      have hx := nx_gt hT hp k0
      obtain ⟨z, e1, e2⟩ := gBd_r h
      have b1 := hfa (gAd T n t) z (nx_le hp) e1
      unfold gB at b1
      have b2 := gTl_b hT hfa f wt (gPt (12, 0) z) s' b1.2.1 e2
      have q1 : (gAd T n t).1 = nxE T n t.1 := rfl
      have q2 : (gAd T n t).2.2.length = t.2.2.length := rfl
      have q3 := gPt_l (12, 0) z
      have q4 : (gPt (12, 0) z).1 = z.1 := rfl
      omega
    · rw [if_neg h0] at h
      by_cases h1 : wix T t.1 (leE T n t.1) ws5 0 = 1
      · rw [if_pos h1] at h
        have k0 := wx_kd hT ws5 (by decide) (fun z => by rw [h1] at z; exact absurd z (by decide))
        have hx := nx_gt hT hp k0
        obtain ⟨z, e1, e2⟩ := gBd_r h
        have q1 : (gAd T n (gFs wt t)).1 = nxE T n t.1 := by show nxE T n (gFs wt t).1 = _; rw [hb.1]
        have q2 : (gAd T n (gFs wt t)).2.2.length = t.2.2.length + gPn wt := hb.2
        have b1 := hfa (gAd T n (gFs wt t)) z (by rw [q1]; exact nx_le hp) e1
        unfold gB at b1
        have b2 := gTl_b hT hfa f 13 z s' b1.2.1 e2
        have q3 : gPn 13 = 1 := rfl
        omega
      · rw [if_neg h1] at h
        obtain rfl := Sum.inr.inj h
        omega
theorem gTs_b (hT : ∀ i, -128 ≤ T i ∧ T i ≤ 127) {fa : gS → gR} (hfa : ∀ s s', s.1 ≤ n → fa s = .inr s' → gB n s s') {s s' : gS} (hp : s.1 ≤ n) (h : gTs T n fa s = .inr s') : gB n s s' := by
  obtain ⟨z, e1, e2⟩ := gBd_r h
  have b1 := hfa s z hp e1
  unfold gB at b1 ⊢
  have b2 := gTl_b hT hfa _ _ z s' b1.2.1 e2
  have q3 : gPn 0 = 0 := rfl
  omega
theorem gFa_b (hT : ∀ i, -128 ≤ T i ∧ T i ≤ 127) : ∀ (e : Nat) (s s' : gS), s.1 ≤ n → gFa T n e s = .inr s' → gB n s s'
  | 0, s, s', hp, h => by
    unfold gFa at h
    by_cases h1 : isN T n s.1
    · rw [if_pos h1] at h
      exact nomatch h
    · rw [if_neg h1] at h
      by_cases h2 : sgE T n s.1 91
      · rw [if_pos h2] at h
        exact nomatch h
      · rw [if_neg h2] at h
        exact gCm_b hT hp h
  | e + 1, s, s', hp, h => by
    unfold gFa at h
    have q1 : (gAd T n s).1 = nxE T n s.1 := rfl
    have q2 : (gAd T n s).2.2.length = s.2.2.length := rfl
    by_cases h1 : isN T n s.1
    · rw [if_pos h1] at h
      have k0 := wx_kd hT ws4 (by decide) (fun z => by rw [h1] at z; exact absurd z (by decide))
      have hx := nx_gt hT hp k0
      obtain ⟨z, e1, e2⟩ := gBd_r h
      obtain rfl := Sum.inr.inj e2
      have b1 := gFa_b hT e (gAd T n s) z (nx_le hp) e1
      have q3 := gPt_l (11, 0) z
      have q4 : (gPt (11, 0) z).1 = z.1 := rfl
      unfold gB at b1 ⊢
      omega
    · rw [if_neg h1] at h
      by_cases h2 : sgE T n s.1 91
      · rw [if_pos h2] at h
        have hx := nx_gt hT hp (show ¬ kdE T n s.1 = 0 by rw [h2.1]; decide)
        obtain ⟨z, e1, e2⟩ := gBd_r h
        have b1 := gTs_b hT (gFa_b hT e) (nx_le hp : (gAd T n s).1 ≤ n) e1
        unfold gB at b1 ⊢
        by_cases h3 : sgE T n z.1 93
        · rw [if_pos h3] at e2
          obtain rfl := Sum.inr.inj e2
          have hz := nx_gt hT b1.2.1 (show ¬ kdE T n z.1 = 0 by rw [h3.1]; decide)
          have hz2 := nx_le (T := T) b1.2.1
          have q5 : (gAd T n z).1 = nxE T n z.1 := rfl
          have q6 : (gAd T n z).2.2.length = z.2.2.length := rfl
          omega
        · rw [if_neg h3] at e2
          exact nomatch e2
      · rw [if_neg h2] at h
        exact gCm_b hT hp h
end GX
section RV
variable {T : Nat → Int32} {n d : Nat} {t : gS}
theorem gO.ret {x : gR} {r : Option Value} {m2 : xM} (h : gO m0 F I L R H T n x r m2) : ∃ b : Int32, r = some (.int b) ∧ (b = 0 ∨ b = 1) := by
  obtain ⟨F1, I1, _, _, g⟩ := h
  cases x with
  | inl e => exact ⟨0, g.1, Or.inl rfl⟩
  | inr s => exact ⟨1, g.1, Or.inr rfl⟩
theorem r_sign (c : Int32) (h : RS F I T n t) : Cl d j_Tape_isSign [.ref 1, .int c] (CC m0 F I L R H) (Pi (if sgE T n t.1 c then 1 else 0) (CC m0 F I L R H)) := by
  have hkb : kdE T n t.1 < 4 := by
    unfold kdE
    repeat' split
    all_goals omega
  have e : (F 1 3 = 3 ∧ F 1 6 = c) ↔ sgE T n t.1 c := by
    rw [h.2.1.2.1, h.2.1.2.2.2.2]
    exact ⟨fun z => ⟨(nI_eq (a := kdE T n t.1) (b := 3) (by omega) (by omega)).mp z.1, z.2⟩, fun z => ⟨by rw [z.1]; rfl, z.2⟩⟩
  have := c_T_sign (m0 := m0) (F := F) (I := I) (L := L) (R := R) (H := H) (d := d) c
  by_cases hz : sgE T n t.1 c
  · rw [if_pos (e.mpr hz)] at this
    rw [if_pos hz]
    exact this
  · rw [if_neg (mt e.mp hz)] at this
    rw [if_neg hz]
    exact this
theorem r_w1 (hd : 6 ≤ d) (hS : STR0 m0) (h : RS F I T n t) : Cl d j_Tape_wordIn [.ref 1, .ref (xS + 2)] (CC m0 F I L R H) (Pi (wix T t.1 (leE T n t.1) ws1 0) (CC m0 F I L R H)) := by
  obtain ⟨rfl, h1, h2, h3, h4, _⟩ := h
  exact c_T_w1 hd hS h4 h1 h3 h2
theorem r_w3 (hd : 6 ≤ d) (hS : STR0 m0) (h : RS F I T n t) : Cl d j_Tape_wordIn [.ref 1, .ref (xS + 6)] (CC m0 F I L R H) (Pi (wix T t.1 (leE T n t.1) ws3 0) (CC m0 F I L R H)) := by
  obtain ⟨rfl, h1, h2, h3, h4, _⟩ := h
  exact c_T_w3 hd hS h4 h1 h3 h2
theorem r_w4 (hd : 6 ≤ d) (hS : STR0 m0) (h : RS F I T n t) : Cl d j_Tape_wordIn [.ref 1, .ref (xS + 8)] (CC m0 F I L R H) (Pi (wix T t.1 (leE T n t.1) ws4 0) (CC m0 F I L R H)) := by
  obtain ⟨rfl, h1, h2, h3, h4, _⟩ := h
  exact c_T_w4 hd hS h4 h1 h3 h2
theorem r_w5 (hd : 6 ≤ d) (hS : STR0 m0) (h : RS F I T n t) : Cl d j_Tape_wordIn [.ref 1, .ref (xS + 10)] (CC m0 F I L R H) (Pi (wix T t.1 (leE T n t.1) ws5 0) (CC m0 F I L R H)) := by
  obtain ⟨rfl, h1, h2, h3, h4, _⟩ := h
  exact c_T_w5 hd hS h4 h1 h3 h2
theorem l_K37 {i wt : Nat} {y D : Int32} {Q : Option Value → xM → Prop} (hd : 1 ≤ d) (h : RS F I T n t) (hb : t.2.2.length + gPn wt ≤ t.1) (hw : wt = 0 ∨ wt = 13) (kk : ∀ F1 I1, RS F1 I1 T n (gFs wt t) → cFI F I F1 I1 → Rn d j_RuleReader_test 47 [.ref 3, .ref 1, .int D, .int (nI (gPn wt)), .int (nI i), .int y] [] (CC m0 F1 I1 L R H) Q) : Rn d j_RuleReader_test 37 [.ref 3, .ref 1, .int D, .int (nI (gPn wt)), .int (nI i), .int y] [] (CC m0 F I L R H) Q := by
  have h400 := h.2.2.1
  have h401 := h.2.2.2.1
  obtain rfl | rfl := hw
  · refine Rn.step (pc' := 38) rfl rfl ?_
    refine Rn.ifc_eq (pc1 := 47) (pc2 := 41) rfl rfl rfl (fun h38 => ?_) (fun h38 => absurd (rfl) h38)
    exact kk _ _ h (cFI.rfl F I)
  · refine Rn.step (pc' := 38) rfl rfl ?_
    refine Rn.ifc_eq (pc1 := 47) (pc2 := 41) rfl rfl rfl (fun h38 => absurd h38 (by decide)) (fun h38 => ?_)
    refine Rn.step (pc' := 42) rfl rfl ?_
    refine Rn.iconst (v := 28) (pc' := 44) rfl (by decide) rfl ?_
    refine Rn.vv (pc' := 47) rfl (by decide) (by omega) rfl rfl rfl (r_put (13, 0) h (by have : gPn 13 = 1 := rfl; omega)) ?_
    exact kk _ _ h.put ⟨fun k _ b => up_ne _ _ b, fun k a => up_ne _ _ a, rfl⟩
set_option maxHeartbeats 4000000 in
theorem l_K_test {D : Int32} {fa : gS → gR} (hd : 8 ≤ d) (hS : STR0 m0) (hfa : ∀ (F I : Nat → Nat → Int32) (t : gS), RS F I T n t → t.2.2.length ≤ t.1 → Cl (d - 1) j_RuleReader_fact [.ref 3, .ref 1, .int D] (CC m0 F I L R H) (gO m0 F I L R H T n (fa t))) (hfb : ∀ s s', s.1 ≤ n → fa s = .inr s' → gB n s s') : ∀ (f i wt : Nat) (F I : Nat → Nat → Int32) (t : gS) (x5 : Value), RS F I T n t → n - t.1 < f → t.2.2.length + gPn wt ≤ t.1 → i < t.1 → (wt = 0 ∨ wt = 13) → Rn d j_RuleReader_test 16 [.ref 3, .ref 1, .int D, .int (nI (gPn wt)), .int (nI i), x5] [] (CC m0 F I L R H) (gO m0 F I L R H T n (gTl T n fa f wt t))
  | 0, _, _, _, _, _, _, _, hf, _, _, _ => absurd hf (Nat.not_lt_zero _)
  | f + 1, i, wt, F, I, t, x5, h, hf, hb, hi, hw => by
    have hn0 := h.2.2.1
    have hn1 := h.2.2.2.1
    have ew : wix T t.1 (leE T n t.1) ws5 0 = -1 ∨ wix T t.1 (leE T n t.1) ws5 0 = 0 ∨ wix T t.1 (leE T n t.1) ws5 0 = 1 := by
      rcases wix_r (T := T) (p := t.1) (q := leE T n t.1) ws5 0 with e | ⟨j, _, hj, e⟩
      · exact Or.inl e
      · have : ws5.length = 2 := rfl
        obtain rfl | rfl : j = 0 ∨ j = 1 := by omega
        · exact Or.inr (Or.inl e)
        · exact Or.inr (Or.inr e)
    rcases ew with e | e | e
    · rw [show gTl T n fa (f + 1) wt t = .inr (gFs wt t) by unfold gTl; rw [if_neg (by rw [e]; decide), if_neg (by rw [e]; decide)]]
      refine Rn.step (pc' := 18) rfl rfl ?_
      refine Rn.iconst (v := 400) (pc' := 21) rfl (by decide) rfl ?_
      refine Rn.icmp_ge (pc1 := 91) (pc2 := 24) rfl rfl rfl (fun h21 => absurd h21 (fun z => absurd ((nI_leI (a := 400) (b := i) (by omega) (by omega)).mp z) (by omega))) (fun h21 => ?_)
      refine Rn.step (pc' := 25) rfl rfl ?_
      refine Rn.step (pc' := 27) rfl rfl ?_
      refine Rn.vi (pc' := 30) rfl (by decide) (by omega) rfl rfl rfl ((show Cl (d - 1) j_Tape_wordIn [.ref 1, .ref (xS + 10)] (CC m0 F I L R H) (Pi (-1) (CC m0 F I L R H)) from e ▸ r_w5 (by omega) hS h)) ?_
      refine Rn.step (pc' := 32) rfl rfl ?_
      refine Rn.step (pc' := 34) rfl rfl ?_
      refine Rn.ifc_eq (pc1 := 47) (pc2 := 37) rfl rfl rfl (fun h34 => absurd h34 (by decide)) (fun h34 => ?_)
      refine l_K37 (by omega) h hb hw (fun F1 I1 h1 c1 => ?_)
      refine Rn.step (pc' := 49) rfl rfl ?_
      refine Rn.ifc_ge (pc1 := 54) (pc2 := 52) rfl rfl rfl (fun h49 => absurd h49 (by decide)) (fun h49 => ?_)
      refine Rn.iconst (v := 1) (pc' := 53) rfl (by decide) rfl ?_
      exact Rn.iret rfl (rfl) (⟨F1, I1, rfl, c1, rfl, h1⟩)
    · rw [show gTl T n fa (f + 1) wt t = gBd (fa (gAd T n t)) (fun z => gTl T n fa f wt (gPt (12, 0) z)) from if_pos e]
      have k0 : ¬ kdE T n t.1 = 0 := wx_kd h.2.2.2.2.1 ws5 (by decide) (fun z => by rw [e] at z; exact absurd z (by decide))
      have hx := nx_gt h.2.2.2.2.1 h.2.2.1 k0
      have hx2 := nx_le (T := T) h.2.2.1
      have hfs := gFs_b wt t
      have ea1 : (gAd T n t).1 = nxE T n t.1 := rfl
      have ea2 : (gAd T n t).2.2.length = t.2.2.length := rfl
      refine Rn.step (pc' := 18) rfl rfl ?_
      refine Rn.iconst (v := 400) (pc' := 21) rfl (by decide) rfl ?_
      refine Rn.icmp_ge (pc1 := 91) (pc2 := 24) rfl rfl rfl (fun h21 => absurd h21 (fun z => absurd ((nI_leI (a := 400) (b := i) (by omega) (by omega)).mp z) (by omega))) (fun h21 => ?_)
      refine Rn.step (pc' := 25) rfl rfl ?_
      refine Rn.step (pc' := 27) rfl rfl ?_
      refine Rn.vi (pc' := 30) rfl (by decide) (by omega) rfl rfl rfl ((show Cl (d - 1) j_Tape_wordIn [.ref 1, .ref (xS + 10)] (CC m0 F I L R H) (Pi (0) (CC m0 F I L R H)) from e ▸ r_w5 (by omega) hS h)) ?_
      refine Rn.step (pc' := 32) rfl rfl ?_
      refine Rn.step (pc' := 34) rfl rfl ?_
      refine Rn.ifc_eq (pc1 := 47) (pc2 := 37) rfl rfl rfl (fun h34 => ?_) (fun h34 => absurd (rfl) h34)
      refine Rn.step (pc' := 49) rfl rfl ?_
      refine Rn.ifc_ge (pc1 := 54) (pc2 := 52) rfl rfl rfl (fun h49 => ?_) (fun h49 => absurd (by decide) h49)
      refine Rn.step (pc' := 55) rfl rfl ?_
      refine Rn.callV (pc' := 58) rfl (by decide) (by omega) rfl rfl rfl (r_next (by omega) h) (fun r_ m_ hc_ => ?_)
      obtain ⟨rfl, f1, rfl, h2⟩ := hc_
      refine Rn.step (pc' := 59) rfl rfl ?_
      refine Rn.step (pc' := 60) rfl rfl ?_
      refine Rn.step (pc' := 61) rfl rfl ?_
      refine Rn.callV (pc' := 64) rfl (by decide) (by omega) rfl rfl rfl (hfa _ _ _ h2 (by omega)) (fun r_ m_ hc_ => ?_)
      obtain ⟨F2, I2, rfl, c2, g2⟩ := hc_
      cases ev : fa (gAd T n t) with
      | inl e9 =>
        rw [ev] at g2
        obtain ⟨rfl, g3⟩ := g2
        refine Rn.ifc_ne (pc1 := 69) (pc2 := 67) rfl rfl rfl (fun h64 => absurd h64 (fun z => z rfl)) (fun h64 => ?_)
        refine Rn.iconst (v := 0) (pc' := 68) rfl (by decide) rfl ?_
        exact Rn.iret rfl (rfl) (⟨F2, I2, rfl, (((cFI.rfl F I).f1 f1).trans c2), rfl, g3⟩)
      | inr z =>
        rw [ev] at g2
        obtain ⟨rfl, h3⟩ := g2
        have bz := hfb _ _ (by rw [ea1]; exact hx2) ev
        unfold gB at bz
        have bi := h.2.2.2.1
        have ep : gPn 13 = 1 := rfl
        have el := gPt_l (12, 0) z
        have el1 : (gPt (12, 0) z).1 = z.1 := rfl
        show Rn _ _ _ _ _ _ (gO m0 F I L R H T n (gTl T n fa f wt (gPt (12, 0) z)))
        refine Rn.ifc_ne (pc1 := 69) (pc2 := 67) rfl rfl rfl (fun h64 => ?_) (fun h64 => absurd h64 (by decide))
        refine Rn.step (pc' := 71) rfl rfl ?_
        refine Rn.ifc_ne (pc1 := 83) (pc2 := 74) rfl rfl rfl (fun h71 => absurd h71 (fun z => z rfl)) (fun h71 => ?_)
        refine Rn.step (pc' := 75) rfl rfl ?_
        refine Rn.iconst (v := 27) (pc' := 77) rfl (by decide) rfl ?_
        refine Rn.vv (pc' := 80) rfl (by decide) (by omega) rfl rfl rfl (r_put (12, 0) h3 (by omega)) ?_
        refine Rn.step (pc' := 85) rfl rfl ?_
        refine Rn.step (pc' := 88) rfl rfl ?_
        refine Rn.step (pc' := 16) rfl rfl ?_
        refine Rn.ls6 rfl rfl rfl rfl (congrArg Value.int (nI_i1 i)) rfl ?_
        refine Rn.conseq (l_K_test hd hS hfa hfb f (i + 1) wt _ _ (gPt (12, 0) z) _ h3.put (by omega) (by omega) (by omega) hw) (fun r m hg => hg.mono ((((cFI.rfl F I).f1 f1).trans c2).trans ⟨fun k _ b => up_ne _ _ b, fun k a => up_ne _ _ a, rfl⟩))
    · rw [show gTl T n fa (f + 1) wt t = gBd (fa (gAd T n (gFs wt t))) (fun z => gTl T n fa f 13 z) from (if_neg (by rw [e]; decide)).trans (if_pos e)]
      have k0 : ¬ kdE T n t.1 = 0 := wx_kd h.2.2.2.2.1 ws5 (by decide) (fun z => by rw [e] at z; exact absurd z (by decide))
      have hx := nx_gt h.2.2.2.2.1 h.2.2.1 k0
      have hx2 := nx_le (T := T) h.2.2.1
      have hfs := gFs_b wt t
      have ea1 : (gAd T n (gFs wt t)).1 = nxE T n t.1 := by show nxE T n (gFs wt t).1 = _; rw [hfs.1]
      have ea2 : (gAd T n (gFs wt t)).2.2.length = t.2.2.length + gPn wt := hfs.2
      refine Rn.step (pc' := 18) rfl rfl ?_
      refine Rn.iconst (v := 400) (pc' := 21) rfl (by decide) rfl ?_
      refine Rn.icmp_ge (pc1 := 91) (pc2 := 24) rfl rfl rfl (fun h21 => absurd h21 (fun z => absurd ((nI_leI (a := 400) (b := i) (by omega) (by omega)).mp z) (by omega))) (fun h21 => ?_)
      refine Rn.step (pc' := 25) rfl rfl ?_
      refine Rn.step (pc' := 27) rfl rfl ?_
      refine Rn.vi (pc' := 30) rfl (by decide) (by omega) rfl rfl rfl ((show Cl (d - 1) j_Tape_wordIn [.ref 1, .ref (xS + 10)] (CC m0 F I L R H) (Pi (1) (CC m0 F I L R H)) from e ▸ r_w5 (by omega) hS h)) ?_
      refine Rn.step (pc' := 32) rfl rfl ?_
      refine Rn.step (pc' := 34) rfl rfl ?_
      refine Rn.ifc_eq (pc1 := 47) (pc2 := 37) rfl rfl rfl (fun h34 => absurd h34 (by decide)) (fun h34 => ?_)
      refine l_K37 (by omega) h hb hw (fun F1 I1 h1 c1 => ?_)
      refine Rn.step (pc' := 49) rfl rfl ?_
      refine Rn.ifc_ge (pc1 := 54) (pc2 := 52) rfl rfl rfl (fun h49 => ?_) (fun h49 => absurd (by decide) h49)
      refine Rn.step (pc' := 55) rfl rfl ?_
      refine Rn.callV (pc' := 58) rfl (by decide) (by omega) rfl rfl rfl (r_next (by omega) h1) (fun r_ m_ hc_ => ?_)
      obtain ⟨rfl, f1, rfl, h2⟩ := hc_
      refine Rn.step (pc' := 59) rfl rfl ?_
      refine Rn.step (pc' := 60) rfl rfl ?_
      refine Rn.step (pc' := 61) rfl rfl ?_
      refine Rn.callV (pc' := 64) rfl (by decide) (by omega) rfl rfl rfl (hfa _ _ _ h2 (by omega)) (fun r_ m_ hc_ => ?_)
      obtain ⟨F2, I2, rfl, c2, g2⟩ := hc_
      cases ev : fa (gAd T n (gFs wt t)) with
      | inl e9 =>
        rw [ev] at g2
        obtain ⟨rfl, g3⟩ := g2
        refine Rn.ifc_ne (pc1 := 69) (pc2 := 67) rfl rfl rfl (fun h64 => absurd h64 (fun z => z rfl)) (fun h64 => ?_)
        refine Rn.iconst (v := 0) (pc' := 68) rfl (by decide) rfl ?_
        exact Rn.iret rfl (rfl) (⟨F2, I2, rfl, ((c1.f1 f1).trans c2), rfl, g3⟩)
      | inr z =>
        rw [ev] at g2
        obtain ⟨rfl, h3⟩ := g2
        have bz := hfb _ _ (by rw [ea1]; exact hx2) ev
        unfold gB at bz
        have bi := h.2.2.2.1
        have ep : gPn 13 = 1 := rfl
        have el := gPt_l (12, 0) z
        have el1 : (gPt (12, 0) z).1 = z.1 := rfl
        show Rn _ _ _ _ _ _ (gO m0 F I L R H T n (gTl T n fa f 13 z))
        refine Rn.ifc_ne (pc1 := 69) (pc2 := 67) rfl rfl rfl (fun h64 => ?_) (fun h64 => absurd h64 (by decide))
        refine Rn.step (pc' := 71) rfl rfl ?_
        refine Rn.ifc_ne (pc1 := 83) (pc2 := 74) rfl rfl rfl (fun h71 => ?_) (fun h71 => absurd h71 (by decide))
        refine Rn.iconst (v := 1) (pc' := 84) rfl (by decide) rfl ?_
        refine Rn.step (pc' := 85) rfl rfl ?_
        refine Rn.step (pc' := 88) rfl rfl ?_
        refine Rn.step (pc' := 16) rfl rfl ?_
        refine Rn.ls6 rfl rfl rfl rfl (congrArg Value.int (nI_i1 i)) rfl ?_
        refine Rn.conseq (l_K_test hd hS hfa hfb f (i + 1) 13 _ _ z _ h3 (by omega) (by omega) (by omega) (Or.inr rfl)) (fun r m hg => hg.mono ((c1.f1 f1).trans c2))
theorem r_test {D : Int32} {fa : gS → gR} (hd : 8 ≤ d) (hS : STR0 m0) (hfa : ∀ (F I : Nat → Nat → Int32) (t : gS), RS F I T n t → t.2.2.length ≤ t.1 → Cl (d - 1) j_RuleReader_fact [.ref 3, .ref 1, .int D] (CC m0 F I L R H) (gO m0 F I L R H T n (fa t))) (hfb : ∀ s s', s.1 ≤ n → fa s = .inr s' → gB n s s') (h : RS F I T n t) (hb : t.2.2.length ≤ t.1) : Cl d j_RuleReader_test [.ref 3, .ref 1, .int D] (CC m0 F I L R H) (gO m0 F I L R H T n (gTs T n fa t)) := by
  show Rn d j_RuleReader_test 0 _ _ _ _
  refine Rn.step (pc' := 1) rfl rfl ?_
  refine Rn.step (pc' := 2) rfl rfl ?_
  refine Rn.step (pc' := 3) rfl rfl ?_
  refine Rn.callV (pc' := 6) rfl (by decide) (by omega) rfl rfl rfl (hfa _ _ _ h hb) (fun r_ m_ hc_ => ?_)
  obtain ⟨F2, I2, rfl, c2, g2⟩ := hc_
  unfold gTs
  cases ev : fa t with
  | inl e9 =>
    rw [ev] at g2
    obtain ⟨rfl, g3⟩ := g2
    refine Rn.ifc_ne (pc1 := 11) (pc2 := 9) rfl rfl rfl (fun h6 => absurd h6 (fun z => z rfl)) (fun h6 => ?_)
    refine Rn.iconst (v := 0) (pc' := 10) rfl (by decide) rfl ?_
    exact Rn.iret rfl (rfl) (⟨F2, I2, rfl, c2, rfl, g3⟩)
  | inr z =>
    rw [ev] at g2
    obtain ⟨rfl, h3⟩ := g2
    have bz := hfb _ _ h.2.2.1 ev
    unfold gB at bz
    have ep : gPn 0 = 0 := rfl
    refine Rn.ifc_ne (pc1 := 11) (pc2 := 9) rfl rfl rfl (fun h6 => ?_) (fun h6 => absurd h6 (by decide))
    refine Rn.iconst (v := 0) (pc' := 12) rfl (by decide) rfl ?_
    refine Rn.step (pc' := 13) rfl rfl ?_
    refine Rn.iconst (v := 0) (pc' := 14) rfl (by decide) rfl ?_
    refine Rn.step (pc' := 16) rfl rfl ?_
    exact Rn.conseq (l_K_test hd hS hfa hfb (n + 1) 0 0 _ _ z _ h3 (by omega) (by omega) (by omega) (Or.inl rfl)) (fun r m hg => hg.mono c2)
end RV
end DB
