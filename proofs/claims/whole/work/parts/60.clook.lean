/-! THE CLASS: who agrees with the prints, where to look. -/
section CK
variable {m0 : xM} {F I : Nat → Nat → Int32} {L : Nat → Nat → Int64} {R : Nat → Nat → Option Nat} {H : Value} {s w : Nat → Int32} {o : Nat} {gg : Prop}
theorem aPS_no {t : Nat → Int32} {sec n : Int32} {Bn : Nat} : ∀ K, (∀ k, k < K → ¬ t (110 + 4 * k) = n) → aPS t sec Bn n K = true
  | 0, _ => rfl
  | K + 1, h => by
    rw [aPS, aPS_no K (fun k hk => h k (by omega)), decide_eq_false (fun z => h K (by omega) z.1)]
    rfl
theorem fPr_iff (E : xEv) (t : Nat → Int32) (K : Nat) : ∀ n, fPr E t K n = true ↔ ∀ j, j ≤ n → aPS (oS E t j) E.sec E.Bn (nI j) K = true
  | 0 => ⟨fun h j hj => by
      obtain rfl : j = 0 := by omega
      exact h, fun h => h 0 (by omega)⟩
  | n + 1 => by
    rw [fPr, Bool.and_eq_true, fPr_iff E t K n]
    constructor
    · rintro ⟨h1, h2⟩ j hj
      by_cases e : j = n + 1
      · subst e
        exact h2
      · exact h1 j (by omega)
    · exact fun h => ⟨fun j hj => h j (by omega), h (n + 1) (Nat.le_refl _)⟩
theorem b01_t {b : Bool} (h : b = true) : b01 b = 1 := by rw [h]; rfl
theorem b01_f {b : Bool} (h : b = false) : b01 b = 0 := by rw [h]; rfl
theorem f_agE {d l : Nat} {b : Int32} {m : xM} (hl : l < 48) {Q : Option Value → xM → Prop} (hq : Q (some (.int 1)) m) : Rn d j_Trials_agrees 28 [.ref 24, .ref 14, .ref 12, .int b, .int (nI l), .int (nI (l + 1))] [] m Q := by
  refine Rn.step (pc' := 30) rfl rfl ?_
  refine Rn.step (pc' := 32) rfl rfl ?_
  refine Rn.icmp_gt (pc1 := 80) (pc2 := 35) rfl rfl rfl (fun h32 => ?_) (fun h32 => absurd ((nI_ltI (by omega) (by omega)).mpr (by omega)) h32)
  refine Rn.iconst (v := 1) (pc' := 81) rfl (by decide) rfl ?_
  exact Rn.iret rfl (by decide) (hq)
theorem l_T_ags {d P K l : Nat} {E : xEv} {t : Nat → Int32} {b z : Int32} {L : Nat → Nat → Int64} (hh : HB P E s F I H m0) (hs : E.sec = -1) (hfd : E.fd = 0) (ht : HB P E t F I H m0) (hp2 : PR K t (F 12) (I 13)) (hD : DB t 800) (hl48 : l < 48) (hlast : ∀ k, k < K → ∃ u, u ≤ l ∧ t (110 + 4 * k) = nI u) (hd : 6 ≤ d) (n : Nat) (hn : n ≤ l) (hpr : ∀ j, j < n → aPS (oS E t j) E.sec E.Bn (nI j) K = true) (w : Nat → Int32) (hr : WR False E.Bn (oS E t n) w) : Rn d j_Trials_agrees 28 [.ref 24, .ref 14, .ref 12, .int b, .int (nI l), .int (nI n)] [] (CWm m0 (fzF F z) I L R H 25 w) (fun r m2 => r = some (.int (b01 (fPr E t K 47))) ∧ ∃ F1 I1 L1, m2 = CC m0 F1 I1 L1 R H ∧ tF F F1 ∧ F1 24 = F 24 ∧ (∀ k, k ≠ 26 → I1 k = I k)) := by
  have hw := mPo_w (E := E) 0 ht.wl ht.wd n
  have hh2 : HB P E (oS E t n) (fzF F z) I H m0 := (ht.to hw.1 hw.2).zf z
  have hpt : PR K t (fzF F z 12) (I 13) := hp2
  have hD2 : ∃ D, D < 999 ∧ oS E t n 6 = nI D := by
    obtain ⟨D, h1, h2⟩ := hD.hours ht.wl ht.wd n
    exact ⟨D, by omega, h2⟩
  refine Rn.step (pc' := 30) rfl rfl ?_
  refine Rn.step (pc' := 32) rfl rfl ?_
  refine Rn.icmp_gt (pc1 := 80) (pc2 := 35) rfl rfl rfl (fun h32 => absurd h32 (fun z => absurd ((nI_ltI (a := l) (b := n) (by omega) (by omega)).mp z) (by omega))) (fun h32 => ?_)
  refine Rn.step (pc' := 36) rfl rfl ?_
  refine Rn.step (pc' := 37) rfl rfl ?_
  refine Rn.getf (pc' := 40) rfl rfl rfl rfl rfl ?_
  refine Rn.step (pc' := 41) rfl rfl ?_
  refine Rn.getf (pc' := 44) rfl rfl rfl rfl rfl ?_
  refine Rn.getf (pc' := 47) rfl rfl rfl rfl rfl ?_
  rw [show fzF F z 17 10 = nI E.Bn from hh.lr.b.trans hh.wl.b]
  refine Rn.step (pc' := 49) rfl rfl ?_
  refine Rn.vi (pc' := 52) rfl (by decide) (by omega) rfl rfl rfl (hs ▸ c_P_ag (gg := False) (s := oS E t n) (nI n) (hpt.fx hw.1) hr hh.wl.b6 (by omega)) ?_
  refine Rn.ifc_ne (pc1 := 57) (pc2 := 55) rfl rfl rfl (fun h52 => ?_) (fun h52 => ?_)
  · refine Rn.step (pc' := 59) rfl rfl ?_
    refine Rn.step (pc' := 61) rfl rfl ?_
    refine Rn.icmp_ge (pc1 := 74) (pc2 := 64) rfl rfl rfl (fun h61 => ?_) (fun h61 => ?_)
    · refine Rn.step (pc' := 77) rfl rfl ?_
      refine Rn.step (pc' := 28) rfl rfl ?_
      have h1 : aPS (oS E t n) E.sec E.Bn (nI n) K = true := b01_1 h52
      have en : n = l := by
        have := (nI_leI (a := l) (b := n) (by omega) (by omega)).mp h61
        omega
      subst en
      refine Rn.ls6 rfl rfl rfl rfl rfl (congrArg Value.int (nI_i1 n)) (f_agE hl48 ⟨?_, _, _, L, rfl, (tF.rfl F).fz z, rfl, fun k hk => up_ne I w hk⟩)
      rw [b01_t]
      refine (fPr_iff E t K 47).mpr (fun j hj => ?_)
      by_cases e : j ≤ n
      · by_cases e2 : j = n
        · subst e2
          exact h1
        · exact hpr j (by omega)
      · refine aPS_no K (fun k hk y => ?_)
        have hwj : oS E t j (110 + 4 * k) = t (110 + 4 * k) := (mPo_w (E := E) 0 ht.wl ht.wd j).1 (110 + 4 * k) (by unfold fxc; omega)
        obtain ⟨u, hu1, hu2⟩ := hlast k hk
        rw [hwj, hu2] at y
        have := (nI_eq (a := u) (b := j) (by omega) (by omega)).mp y
        omega
    · refine Rn.step (pc' := 65) rfl rfl ?_
      refine Rn.step (pc' := 66) rfl rfl ?_
      refine Rn.getf (pc' := 69) rfl rfl rfl rfl rfl ?_
      refine Rn.iconst (v := 0) (pc' := 70) rfl (by decide) rfl ?_
      refine Rn.callV (pc' := 73) rfl (by decide) (by omega) rfl rfl rfl (hfd ▸ c_H_pass (o := 25) (by unfold isW; omega) hh2 hr hD2 (by omega)) (fun r_ m_ hc_ => ?_)
      obtain ⟨rfl, L2, w2, rfl, hr2⟩ := hc_
      refine Rn.step (pc' := 74) rfl rfl ?_
      refine Rn.step (pc' := 77) rfl rfl ?_
      refine Rn.step (pc' := 28) rfl rfl ?_
      have h1 : aPS (oS E t n) E.sec E.Bn (nI n) K = true := b01_1 h52
      have hnl : n < l := by
        have := mt (nI_leI (a := l) (b := n) (by omega) (by omega)).mpr h61
        omega
      rw [fzF_u]
      exact Rn.ls6 rfl rfl rfl rfl rfl (congrArg Value.int (nI_i1 n)) (l_T_ags hh hs hfd ht hp2 hD hl48 hlast hd (n + 1) (by omega) (fun j hj => by
        by_cases e : j = n
        · subst e
          exact h1
        · exact hpr j (by omega)) w2 (by rw [oS_s]; exact hr2))
  · refine Rn.iconst (v := 0) (pc' := 56) rfl (by decide) rfl ?_
    exact Rn.iret rfl (by decide) (⟨by
        have h0 : aPS (oS E t n) E.sec E.Bn (nI n) K = false := b01_0 h52
        rw [b01_f]
        cases hq : fPr E t K 47 with
        | false => rfl
        | true =>
          have := (fPr_iff E t K 47).mp hq n (by omega)
          rw [h0] at this
          exact this.symm, _, _, L, rfl, (tF.rfl F).fz z, rfl, fun k hk => up_ne I w hk⟩)
termination_by l - n
theorem bgS_6 {s : Nat → Int32} {Bn : Nat} (hB : Bn ≤ 6) (b : Int32) : DB (bgS s Bn b) 0 := ⟨0, Nat.le_refl _, by
  unfold bgS
  rw [lnd_n _ _ (by omega), upd_n _ _ (by omega), upd_n _ _ (by omega)]
  exact bgH_6 s Bn hB⟩
theorem HB.bg {P : Nat} {E : xEv} {s : Nat → Int32} {F I : Nat → Nat → Int32} {H : Value} {m0 : xM} (h : HB P E s F I H m0) {b : Int32} (hb : b = -1 ∨ ∃ c, c < E.Bn ∧ b = nI c) : HB P E (bgS s E.Bn b) F I H m0 := h.to (bgS_w h.wl h.wd hb).1 (bgS_w h.wl h.wd hb).2
theorem c_T_ags {d P K : Nat} {E : xEv} (hh : HB P E s F I H m0) (hs : E.sec = -1) (hfd : E.fd = 0) (hp : PR K s (F 12) (I 13)) (hd : 6 ≤ d) {b : Int32} (hb : b = -1 ∨ ∃ c, c < E.Bn ∧ b = nI c) : Cl d j_Trials_agrees [.ref 24, .ref 14, .ref 12, .int b] (CC m0 F I L R H) (fun r m2 => r = some (.int (b01 (fPr E (bgS s E.Bn b) K 47))) ∧ ∃ F1 I1 L1, m2 = CC m0 F1 I1 L1 R H ∧ tF F F1 ∧ F1 24 = F 24 ∧ (∀ k, k ≠ 26 → I1 k = I k)) := by
  refine Rn.mm (m2 := CWm m0 F I L R H 25 (I 26)) CW_id.symm ?_
  have hb6 := hh.wl.b6
  have ht := hh.bg hb
  have hp2 := hp.fx (bgS_w hh.wl hh.wd hb).1
  obtain ⟨l, hl1, hl2, hl3⟩ := lsH_in hp2.h K (Nat.le_refl _)
  show Rn d j_Trials_agrees 0 _ _ _ _
  refine Rn.step (pc' := 1) rfl rfl ?_
  refine Rn.getf (pc' := 4) rfl rfl rfl rfl rfl ?_
  refine Rn.step (pc' := 5) rfl rfl ?_
  refine Rn.getf (pc' := 8) rfl rfl rfl rfl rfl ?_
  refine Rn.vv (pc' := 11) rfl (by decide) (by omega) rfl rfl rfl (c_W_begin (o := 25) (w := I 26) (by omega) (by unfold isW; omega) (hh.lr.b.trans hh.wl.b) hh.wl.b6) ?_
  refine Rn.step (pc' := 12) rfl rfl ?_
  refine Rn.getf (pc' := 15) rfl rfl rfl rfl rfl ?_
  refine Rn.step (pc' := 16) rfl rfl ?_
  refine Rn.vv (pc' := 19) rfl (by decide) (by omega) rfl rfl rfl (c_W_dress (o := 25) (by unfold isW; omega) b) ?_
  refine Rn.step (pc' := 20) rfl rfl ?_
  refine Rn.vi (pc' := 23) rfl (by decide) (by omega) rfl rfl rfl (c_P_last (s := bgS s E.Bn b) (K := K) (by rw [up_ne I _ (show 13 ≠ 25 + 1 by decide)]; exact hp2) (by omega)) ?_
  refine Rn.step (pc' := 25) rfl rfl ?_
  refine Rn.iconst (v := 0) (pc' := 26) rfl (by decide) rfl ?_
  refine Rn.step (pc' := 28) rfl rfl ?_
  rw [hl2]
  refine Rn.mm (m2 := CWm m0 (fzF F (F 14 5)) I L R H 25 _) (by rw [fzF_i]) ?_
  exact l_T_ags (t := bgS s E.Bn b) hh hs hfd ht hp2 ((bgS_6 hb6 b).up (by omega)) hl1 hl3 hd 0 (by omega) (fun j hj => absurd hj (by omega)) _ (WR.bg hh.lr hh.wl (hb_n hb6 hb) _)
def lowb (a : Nat) : Nat := if a % 2 = 1 then 0 else if a / 2 % 2 = 1 then 1 else if a / 4 % 2 = 1 then 2 else if a / 8 % 2 = 1 then 3 else if a / 16 % 2 = 1 then 4 else if a / 32 % 2 = 1 then 5 else 6
theorem lowb_a : ∀ k, k < 7 → ∀ a, a < 2 ^ k → a ≠ 0 → lowb (a + 2 ^ k) = lowb a := by decide +kernel
theorem lowb_0 : ∀ k, k < 7 → lowb (2 ^ k) = k := by decide +kernel
theorem ftG_eq : ∀ B, B < 7 → ∀ a, a < 2 ^ (B + 1) → ftG a (B + 1) (0, -2) = (bits7 a, if a = 0 then -2 else nI (lowb a) - 1) := by decide +kernel
theorem f_ag35 {d P K : Nat} {E : xEv} (hh : HB P E s F I H m0) (hs : E.sec = -1) (hfd : E.fd = 0) (hp : PR K s (F 12) (I 13)) (hd : 7 ≤ d) {Q : Option Value → xM → Prop} (k : Nat) (hk7 : k < 7) (hb : nI k - 1 = -1 ∨ ∃ c, c < E.Bn ∧ nI k - 1 = nI c) (hfit : decide (k = 0 ∨ ¬ s 1 < s (10 + 6 * (k - 1) + 2)) = true) {m : xM} (hm : ∃ F1 I1 L1, m = CC m0 F1 I1 L1 R H ∧ tF F F1 ∧ tI I I1 ∧ (fbN E s K k ≠ 0 → F1 24 3 = nI (lowb (fbN E s K k)) - 1)) (hkk : ∀ m, (∃ F1 I1 L1, m = CC m0 F1 I1 L1 R H ∧ tF F F1 ∧ tI I I1 ∧ (fbN E s K (k + 1) ≠ 0 → F1 24 3 = nI (lowb (fbN E s K (k + 1))) - 1)) → Rn d j_Trials_agreeing 72 [.ref 24, .ref 14, .ref 12, .int (nI (fbN E s K (k + 1))), .int (nI k - 1)] [] m Q) : Rn d j_Trials_agreeing 35 [.ref 24, .ref 14, .ref 12, .int (nI (fbN E s K k)), .int (nI k - 1)] [] m Q := by
  obtain ⟨F1, I1, L1, rfl, fs1, is1, hlow⟩ := hm
  refine Rn.step (pc' := 36) rfl rfl ?_
  refine Rn.step (pc' := 37) rfl rfl ?_
  refine Rn.step (pc' := 38) rfl rfl ?_
  refine Rn.step (pc' := 40) rfl rfl ?_
  refine Rn.callV (pc' := 43) rfl (by decide) (by omega) rfl rfl rfl (c_T_ags (K := K) (hh.t fs1 is1) hs hfd (by rw [fs1.1 12 (by omega) (by omega), is1 13 (by omega) (by omega) (by omega)]; exact hp) (by omega) hb) (fun r_ m_ hc_ => ?_)
  obtain ⟨rfl, F2, I2, L2, rfl, fs2, e24, is2⟩ := hc_
  have hF2 : tF F F2 := ⟨fun k h1 h2 => (fs2.1 k h1 h2).trans (fs1.1 k h1 h2), fs2.2.trans fs1.2⟩
  have hI2 : tI I I2 := fun k h1 h2 h3 => (is2 k h1).trans (is1 k h1 h2 h3)
  have h24 : F2 24 3 = F1 24 3 := congrFun e24 3
  refine Rn.ifc_eq (pc1 := 72) (pc2 := 46) rfl rfl rfl (fun h43 => ?_) (fun h43 => ?_)
  · have hF : fbt E s K k = false := by
      unfold fbt
      rw [hfit, Bool.true_and]
      exact b01_0 h43
    have e : fbN E s K (k + 1) = fbN E s K k := by rw [fbN, hF]; rfl
    rw [← e]
    exact hkk _ ⟨F2, I2, L2, rfl, hF2, hI2, by rw [e]; intro hne; rw [h24]; exact hlow hne⟩
  · refine Rn.step (pc' := 47) rfl rfl ?_
    refine Rn.step (pc' := 48) rfl rfl ?_
    refine Rn.ifc_ne (pc1 := 56) (pc2 := 51) rfl rfl rfl (fun h48 => ?_) (fun h48 => ?_)
    · refine Rn.step (pc' := 57) rfl rfl ?_
      refine Rn.getf (pc' := 60) rfl rfl rfl rfl rfl ?_
      refine Rn.cput (pc' := 63) rfl rfl rfl rfl rfl (by decide) rfl ?_
      refine Rn.step (pc' := 64) rfl rfl ?_
      refine Rn.iconst (v := 1) (pc' := 65) rfl (by decide) rfl ?_
      refine Rn.step (pc' := 67) rfl rfl ?_
      refine Rn.iconst (v := 1) (pc' := 68) rfl (by decide) rfl ?_
      refine Rn.iadd (pc' := 69) rfl rfl ?_
      refine Rn.ishl (pc' := 70) rfl rfl ?_
      refine Rn.ior (pc' := 71) rfl rfl ?_
      refine Rn.step (pc' := 72) rfl rfl ?_
      have hF : fbt E s K k = true := by
        unfold fbt
        rw [hfit, Bool.true_and]
        exact b01_1 h43
      have hlt := fbN_lt E s K k
      have e : fbN E s K (k + 1) = fbN E s K k + 2 ^ k := by rw [fbN, hF, if_pos rfl]
      rw [show nI k - 1 + 1 = nI k from Int32.sub_add_cancel _ _, bit_or k hk7 _ hlt, ← e]
      have enz : fbN E s K k ≠ 0 := fun z => h48 (by rw [z]; rfl)
      exact hkk _ ⟨_, I2, L2, rfl, hF2.wh _, hI2, fun _ => by rw [e, lowb_a k hk7 _ hlt enz]; show F2 24 3 = _; rw [h24]; exact hlow enz⟩
    · refine Rn.step (pc' := 53) rfl rfl ?_
      refine Rn.step (pc' := 60) rfl rfl ?_
      refine Rn.cput (pc' := 63) rfl rfl rfl rfl rfl (by decide) rfl ?_
      refine Rn.step (pc' := 64) rfl rfl ?_
      refine Rn.iconst (v := 1) (pc' := 65) rfl (by decide) rfl ?_
      refine Rn.step (pc' := 67) rfl rfl ?_
      refine Rn.iconst (v := 1) (pc' := 68) rfl (by decide) rfl ?_
      refine Rn.iadd (pc' := 69) rfl rfl ?_
      refine Rn.ishl (pc' := 70) rfl rfl ?_
      refine Rn.ior (pc' := 71) rfl rfl ?_
      refine Rn.step (pc' := 72) rfl rfl ?_
      have hF : fbt E s K k = true := by
        unfold fbt
        rw [hfit, Bool.true_and]
        exact b01_1 h43
      have hlt := fbN_lt E s K k
      have e : fbN E s K (k + 1) = fbN E s K k + 2 ^ k := by rw [fbN, hF, if_pos rfl]
      rw [show nI k - 1 + 1 = nI k from Int32.sub_add_cancel _ _, bit_or k hk7 _ hlt, ← e]
      have ez : fbN E s K k = 0 := (nI_eq (b := 0) (by have := Nat.pow_le_pow_right (n := 2) (show 0 < 2 by omega) (show k ≤ 6 by omega); omega) (by omega)).mp h48
      exact hkk _ ⟨_, I2, L2, rfl, hF2.wh _, hI2, fun _ => by rw [e, ez, Nat.zero_add, lowb_0 k hk7]; rfl⟩
set_option maxHeartbeats 4000000 in
theorem l_T_agr {d P K : Nat} {E : xEv} (hh : HB P E s F I H m0) (hs : E.sec = -1) (hfd : E.fd = 0) (hp : PR K s (F 12) (I 13)) (hd : 7 ≤ d) (k : Nat) (hk : k ≤ E.Bn + 1) {m : xM} (hm : ∃ F1 I1 L1, m = CC m0 F1 I1 L1 R H ∧ tF F F1 ∧ tI I I1 ∧ (fbN E s K k ≠ 0 → F1 24 3 = nI (lowb (fbN E s K k)) - 1)) : Rn d j_Trials_agreeing 5 [.ref 24, .ref 14, .ref 12, .int (nI (fbN E s K k)), .int (nI k - 1)] [] m (fun r m2 => r = some (.int (nI (fbN E s K (E.Bn + 1)))) ∧ ∃ F1 I1 L1, m2 = CC m0 F1 I1 L1 R H ∧ tF F F1 ∧ tI I I1 ∧ (fbN E s K (E.Bn + 1) ≠ 0 → F1 24 3 = nI (lowb (fbN E s K (E.Bn + 1))) - 1)) := by
  obtain ⟨F1, I1, L1, rfl, fs1, is1, hlow⟩ := hm
  have hb6 := hh.wl.b6
  cases k with
  | zero =>
    refine Rn.ls5 (b4 := .int (-1)) rfl rfl rfl rfl (congrArg Value.int nI_0m) ?_
    refine Rn.step (pc' := 7) rfl rfl ?_
    refine Rn.step (pc' := 8) rfl rfl ?_
    refine Rn.getf (pc' := 11) rfl rfl rfl rfl rfl ?_
    refine Rn.getf (pc' := 14) rfl rfl rfl rfl rfl ?_
    refine Rn.icmp_ge (pc1 := 78) (pc2 := 17) rfl rfl rfl (fun h14 => absurd h14 (by rw [(hh.t fs1 is1).lr.b, hh.wl.b]; exact fun z => Int32.not_lt.mpr z (Int32.lt_of_lt_of_le neg1 (nI_pos' (by omega))))) (fun h14 => ?_)
    refine Rn.step (pc' := 19) rfl rfl ?_
    refine Rn.iconst (v := (-1)) (pc' := 20) rfl (by decide) rfl ?_
    refine Rn.icmp_eq (pc1 := 35) (pc2 := 23) rfl rfl rfl (fun h20 => ?_) (fun h20 => absurd (rfl) h20)
    refine f_ag35 hh hs hfd hp hd 0 (by omega) (Or.inl nI_0m) (decide_eq_true (Or.inl rfl)) ⟨F1, I1, L1, rfl, fs1, is1, hlow⟩ (fun m2 hm2 => ?_)
    refine Rn.step (pc' := 75) rfl rfl ?_
    refine Rn.step (pc' := 5) rfl rfl ?_
    exact Rn.ls5 rfl rfl rfl rfl (congrArg Value.int (show nI 0 - 1 + Int32.ofInt 1 = nI 1 - 1 by decide)) (l_T_agr hh hs hfd hp hd (1) (by omega) hm2)
  | succ k =>
    refine Rn.ls5 (b4 := .int (nI k)) rfl rfl rfl rfl (congrArg Value.int (nI_pred k)) ?_
    refine Rn.step (pc' := 7) rfl rfl ?_
    refine Rn.step (pc' := 8) rfl rfl ?_
    refine Rn.getf (pc' := 11) rfl rfl rfl rfl rfl ?_
    refine Rn.getf (pc' := 14) rfl rfl rfl rfl rfl ?_
    refine Rn.icmp_ge (pc1 := 78) (pc2 := 17) rfl rfl rfl (fun h14 => ?_) (fun h14 => ?_)
    · obtain rfl := nI_up (k := k) (N := E.Bn) (by omega) (by omega) (by rw [(hh.t fs1 is1).lr.b, hh.wl.b] at h14; exact h14)
      refine Rn.step (pc' := 79) rfl rfl ?_
      exact Rn.iret rfl (rfl) (⟨rfl, F1, I1, L1, rfl, fs1, is1, hlow⟩)
    · have hk2 := nI_dn (k := k) (N := E.Bn) (by omega) (by omega) (by rw [(hh.t fs1 is1).lr.b, hh.wl.b] at h14; exact h14)
      refine Rn.step (pc' := 19) rfl rfl ?_
      refine Rn.iconst (v := (-1)) (pc' := 20) rfl (by decide) rfl ?_
      refine Rn.icmp_eq (pc1 := 35) (pc2 := 23) rfl rfl rfl (fun h20 => absurd h20 (fun z => absurd (show nI k < 0 by rw [z]; exact neg1) (nI_pos (by omega)))) (fun h20 => ?_)
      refine Rn.step (pc' := 24) rfl rfl ?_
      refine Rn.getf (pc' := 27) rfl rfl rfl rfl rfl ?_
      refine Rn.step (pc' := 29) rfl rfl ?_
      refine Rn.vi (pc' := 32) rfl (by decide) (by omega) rfl rfl rfl (c_C_fits (hh.t fs1 is1).lr hh.wl.b6 hk2) ?_
      refine Rn.ifq_eq (pc1 := 72) (pc2 := 35) rfl rfl rfl (fun h32 => ?_) (fun h32 => ?_)
      · refine Rn.step (pc' := 75) rfl rfl ?_
        refine Rn.step (pc' := 5) rfl rfl ?_
        have hF : fbt E s K (k + 1) = false := by
          unfold fbt
          rw [decide_eq_false (fun z => z.elim (fun c => by omega) (fun c => c h32)), Bool.false_and]
        have e : fbN E s K (k + 1 + 1) = fbN E s K (k + 1) := by rw [fbN, hF]; rfl
        rw [← e]
        exact Rn.ls5 rfl rfl rfl rfl (congrArg Value.int ((nI_i1 k).trans (nI_pred (k + 1)).symm)) (l_T_agr hh hs hfd hp hd (k + 2) (by omega) ⟨F1, I1, L1, rfl, fs1, is1, by rw [show k + 2 = k + 1 + 1 from rfl, e]; exact hlow⟩)
      · refine Rn.ls5 (b4 := .int (nI (k + 1) - 1)) rfl rfl rfl rfl (congrArg Value.int (nI_pred k).symm) ?_
        refine f_ag35 hh hs hfd hp hd (k + 1) (by omega) (Or.inr ⟨k, hk2, nI_pred k⟩) (decide_eq_true (Or.inr h32)) ⟨F1, I1, L1, rfl, fs1, is1, hlow⟩ (fun m2 hm2 => ?_)
        refine Rn.step (pc' := 75) rfl rfl ?_
        refine Rn.step (pc' := 5) rfl rfl ?_
        exact Rn.ls5 rfl rfl rfl rfl (congrArg Value.int (by rw [nI_pred, nI_i1, nI_pred])) (l_T_agr hh hs hfd hp hd (k + 2) (by omega) hm2)
termination_by E.Bn + 1 - k
theorem c_T_agr {d P K : Nat} {E : xEv} (hh : HB P E s F I H m0) (hs : E.sec = -1) (hfd : E.fd = 0) (hp : PR K s (F 12) (I 13)) (hd : 7 ≤ d) {m : xM} (hm : ∃ F1 I1 L1, m = CC m0 F1 I1 L1 R H ∧ tF F F1 ∧ tI I I1) : Cl d j_Trials_agreeing [.ref 24, .ref 14, .ref 12] m (fun r m2 => r = some (.int (nI (fbN E s K (E.Bn + 1)))) ∧ ∃ F1 I1 L1, m2 = CC m0 F1 I1 L1 R H ∧ tF F F1 ∧ tI I I1 ∧ (fbN E s K (E.Bn + 1) ≠ 0 → F1 24 3 = nI (lowb (fbN E s K (E.Bn + 1))) - 1)) := by
  obtain ⟨F1, I1, L1, rfl, fs1, is1⟩ := hm
  show Rn d j_Trials_agreeing 0 _ _ _ _
  refine Rn.iconst (v := 0) (pc' := 1) rfl (by decide) rfl ?_
  refine Rn.step (pc' := 2) rfl rfl ?_
  refine Rn.iconst (v := (-1)) (pc' := 3) rfl (by decide) rfl ?_
  refine Rn.step (pc' := 5) rfl rfl ?_
  refine Rn.ls5 (b4 := .int (nI 0 - 1)) rfl rfl rfl rfl (congrArg Value.int nI_0m.symm) ?_
  exact l_T_agr hh hs hfd hp hd 0 (by omega) ⟨F1, I1, L1, rfl, fs1, is1, fun z => absurd rfl z⟩
end CK
