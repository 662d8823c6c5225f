/-! THE CLASS: to whom to lend them. -/
section CG0
variable {m0 : xM} {F I : Nat → Nat → Int32} {L : Nat → Nat → Int64} {R : Nat → Nat → Option Nat} {H : Value} {s w : Nat → Int32} {o : Nat} {gg : Prop}
theorem WR.ext {gg : Prop} {Bn : Nat} {s w w2 : Nat → Int32} (h : WR gg Bn s w) (hB : Bn ≤ 6) (e : ∀ i, i < 33 → w2 i = w i) : WR gg Bn s w2 := ⟨
  fun b hb => (e _ (by omega)).trans (h.pl b hb), fun b hb => (e _ (by omega)).trans (h.ch b hb), fun b hb => (e _ (by omega)).trans (h.fz b hb), fun b hb => (e _ (by omega)).trans (h.ea b hb), fun k hk => (e _ (by omega)).trans (h.wr k hk), fun k hk hl => (e _ (by omega)).trans (h.li k hk hl), fun k hk => (e _ (by omega)).trans (h.wo k hk), (e _ (by omega)).trans h.h, (e _ (by omega)).trans h.d, fun hg => (e _ (by omega)).trans (h.sp hg), fun b h1 h2 => ⟨(e _ (by omega)).trans (h.z b h1 h2).1, (e _ (by omega)).trans (h.z b h1 h2).2⟩⟩
/-- dressed -/
def drs (w : Nat → Int32) (x : Int32) : Nat → Int32 := upd (upd (upd (upd w 24 x) 26 0) 25 x) 27 0
theorem drs_n (w : Nat → Int32) (x : Int32) {i : Nat} (h : i < 24 ∨ 27 < i) : drs w x i = w i := by
  unfold drs
  rw [upd_n _ _ (by omega), upd_n _ _ (by omega), upd_n _ _ (by omega), upd_n _ _ (by omega)]
theorem drs_w (w : Nat → Int32) (x : Int32) {k : Nat} (h : k < 2) : drs w x (24 + k) = x := by
  have : k = 0 ∨ k = 1 := by omega
  rcases this with rfl | rfl <;> rfl
theorem drs_l (w : Nat → Int32) (x : Int32) {k : Nat} (h : k < 2) : drs w x (26 + k) = 0 := by
  have : k = 0 ∨ k = 1 := by omega
  rcases this with rfl | rfl <;> rfl
theorem lnd_n (s : Nat → Int32) (b : Int32) {i : Nat} (h : i < 46 ∨ i = 48 ∨ 50 < i) : lnd s b i = s i := by
  unfold lnd
  split
  · rw [upd_n _ _ (by omega), upd_n _ _ (by omega), upd_n _ _ (by omega), upd_n _ _ (by omega)]
  · rw [upd_n _ _ (by omega), upd_n _ _ (by omega)]
theorem lnd_w (s : Nat → Int32) {b : Int32} (hb : b = -1 ∨ ¬ b < 0) {k : Nat} (h : k < 2) : lnd s b (46 + 3 * k) = b := by
  have : k = 0 ∨ k = 1 := by omega
  unfold lnd
  rcases hb with rfl | hb
  · rw [if_pos neg1]
    rcases this with rfl | rfl <;> rfl
  · rw [if_neg hb]
    rcases this with rfl | rfl <;> rfl
theorem lnd_l (s : Nat → Int32) {k : Nat} (h : k < 2) : lnd s (-1) (46 + 3 * k + 1) = 0 := by
  have : k = 0 ∨ k = 1 := by omega
  unfold lnd
  rw [if_pos neg1]
  rcases this with rfl | rfl <;> rfl
theorem WR.lnd {gg : Prop} {Bn : Nat} {s w : Nat → Int32} (h : WR gg Bn s w) (hB : Bn ≤ 6) {b : Int32} (hb : b = -1 ∨ ¬ b < 0) : WR gg Bn (lnd s b) (drs w b) := by
  refine ⟨fun c hc => ?_, fun c hc => ?_, fun c hc => ?_, fun c hc => ?_, fun c hc => ?_, fun c hc hl => ?_, fun c hc => ?_, ?_, ?_, fun hg => ?_, fun c h1 h2 => ?_⟩
  · rw [drs_n _ _ (by omega), lnd_n _ _ (by omega)]; exact h.pl c hc
  · rw [drs_n _ _ (by omega), lnd_n _ _ (by omega)]; exact h.ch c hc
  · rw [drs_n _ _ (by omega), lnd_n _ _ (by omega)]; exact h.fz c hc
  · rw [drs_n _ _ (by omega), lnd_n _ _ (by omega)]; exact h.ea c hc
  · rw [drs_w _ _ hc, lnd_w _ hb hc]
  · rw [lnd_w _ hb hc] at hl
    rcases hb with rfl | hb
    · rw [drs_l _ _ hc, lnd_l _ hc]
    · exact absurd hl hb
  · rw [drs_n _ _ (by omega), lnd_n _ _ (by omega)]; exact h.wo c hc
  · rw [drs_n _ _ (by omega), lnd_n _ _ (by omega)]; exact h.h
  · rw [drs_n _ _ (by omega), lnd_n _ _ (by omega)]; exact h.d
  · rw [drs_n _ _ (by omega), lnd_n _ _ (by omega)]; exact h.sp hg
  · rw [drs_n _ _ (by omega), drs_n _ _ (by omega)]; exact h.z c h1 h2
theorem hb_n {b : Int32} {Bn : Nat} (hB : Bn ≤ 6) (h : b = -1 ∨ ∃ c, c < Bn ∧ b = nI c) : b = -1 ∨ ¬ b < 0 := by
  rcases h with h | ⟨c, h1, h2⟩
  · exact Or.inl h
  · exact Or.inr (by rw [h2]; exact nI_pos (by omega))
theorem c_W_copyFrom {d o2 : Nat} (hd : 1 ≤ d) (ho : isW o) (ho2 : isW o2) : Cl d j_World_copyFrom [.ref o, .ref o2] (CC m0 F I L R H) (Pv (CWm m0 F I L R H o (va_cpy (I (o2 + 1)) (I (o + 1)) 0 0 33))) := by
  show Rn d j_World_copyFrom 0 _ _ _ _
  refine Rn.step (pc' := 1) rfl rfl ?_
  refine Rn.getf (pc' := 4) rfl (CC_O (isW_o ho2 _ _)) rfl rfl rfl ?_
  refine Rn.iconst (v := 0) (pc' := 5) rfl (by decide) rfl ?_
  refine Rn.step (pc' := 6) rfl rfl ?_
  refine Rn.getf (pc' := 9) rfl (CC_O (isW_o ho _ _)) rfl rfl rfl ?_
  refine Rn.iconst (v := 0) (pc' := 10) rfl (by decide) rfl ?_
  refine Rn.iconst (v := 33) (pc' := 12) rfl (by decide) rfl ?_
  refine Rn.ccopy (a0 := o2 + 1) (a := o + 1) (sp := 0) (dp := 0) (n := 33) (pc' := 15) rfl (by omega) (isW_i ho2) (isW_i ho) rfl rfl rfl (by omega) (by decide) rfl ?_
  exact Rn.vret rfl (⟨rfl, rfl⟩)
theorem WR.cpy {gg : Prop} {Bn : Nat} {s w f : Nat → Int32} (h : WR gg Bn s w) (hB : Bn ≤ 6) : WR gg Bn s (va_cpy w f 0 0 33) := h.ext hB (fun i hi => by rw [pk_cpy_in (by omega) (by omega), Nat.zero_add]; rfl)
theorem c_W_dress {d : Nat} (ho : isW o) (x : Int32) : Cl d j_World_dress [.ref o, .int x] (CWm m0 F I L R H o w) (Pv (CWm m0 F I L R H o (drs w x))) := by
  show Rn d j_World_dress 0 _ _ _ _
  refine Rn.iconst (v := 0) (pc' := 1) rfl (by decide) rfl ?_
  refine Rn.step (pc' := 2) rfl rfl ?_
  refine Rn.step (pc' := 3) rfl rfl ?_
  refine Rn.iconst (v := 2) (pc' := 4) rfl (by decide) rfl ?_
  refine Rn.icmp_ge (pc1 := 33) (pc2 := 7) rfl rfl rfl (fun h4 => absurd h4 (show ¬ (2 : Int32) ≤ 0 from by decide)) (fun h4 => ?_)
  refine Rn.step (pc' := 8) rfl rfl ?_
  refine Rn.cgw (pc' := 11) rfl ho rfl ?_
  refine Rn.iconst (v := 24) (pc' := 13) rfl (by decide) rfl ?_
  refine Rn.step (pc' := 14) rfl rfl ?_
  refine Rn.iadd (pc' := 15) rfl rfl ?_
  refine Rn.step (pc' := 16) rfl rfl ?_
  refine Rn.cwst (k := 24) (pc' := 17) rfl ho (by decide) (by omega) (by decide) rfl ?_
  refine Rn.step (pc' := 18) rfl rfl ?_
  refine Rn.cgw (pc' := 21) rfl ho rfl ?_
  refine Rn.iconst (v := 26) (pc' := 23) rfl (by decide) rfl ?_
  refine Rn.step (pc' := 24) rfl rfl ?_
  refine Rn.iadd (pc' := 25) rfl rfl ?_
  refine Rn.iconst (v := 0) (pc' := 26) rfl (by decide) rfl ?_
  refine Rn.cwst (k := 26) (pc' := 27) rfl ho (by decide) (by omega) (by decide) rfl ?_
  refine Rn.step (pc' := 30) rfl rfl ?_
  refine Rn.step (pc' := 2) rfl rfl ?_
  refine Rn.ls3 (b2 := .int 1) rfl rfl (congrArg Value.int (by decide)) ?_
  refine Rn.step (pc' := 3) rfl rfl ?_
  refine Rn.iconst (v := 2) (pc' := 4) rfl (by decide) rfl ?_
  refine Rn.icmp_ge (pc1 := 33) (pc2 := 7) rfl rfl rfl (fun h4 => absurd h4 (show ¬ (2 : Int32) ≤ 1 from by decide)) (fun h4 => ?_)
  refine Rn.step (pc' := 8) rfl rfl ?_
  refine Rn.cgw (pc' := 11) rfl ho rfl ?_
  refine Rn.iconst (v := 24) (pc' := 13) rfl (by decide) rfl ?_
  refine Rn.step (pc' := 14) rfl rfl ?_
  refine Rn.iadd (pc' := 15) rfl rfl ?_
  refine Rn.step (pc' := 16) rfl rfl ?_
  refine Rn.cwst (k := 25) (pc' := 17) rfl ho (by decide) (by omega) (by decide) rfl ?_
  refine Rn.step (pc' := 18) rfl rfl ?_
  refine Rn.cgw (pc' := 21) rfl ho rfl ?_
  refine Rn.iconst (v := 26) (pc' := 23) rfl (by decide) rfl ?_
  refine Rn.step (pc' := 24) rfl rfl ?_
  refine Rn.iadd (pc' := 25) rfl rfl ?_
  refine Rn.iconst (v := 0) (pc' := 26) rfl (by decide) rfl ?_
  refine Rn.cwst (k := 27) (pc' := 27) rfl ho (by decide) (by omega) (by decide) rfl ?_
  refine Rn.step (pc' := 30) rfl rfl ?_
  refine Rn.step (pc' := 2) rfl rfl ?_
  refine Rn.ls3 (b2 := .int 2) rfl rfl (congrArg Value.int (by decide)) ?_
  refine Rn.step (pc' := 3) rfl rfl ?_
  refine Rn.iconst (v := 2) (pc' := 4) rfl (by decide) rfl ?_
  refine Rn.icmp_ge (pc1 := 33) (pc2 := 7) rfl rfl rfl (fun h4 => ?_) (fun h4 => absurd (show (2 : Int32) ≤ 2 from by decide) h4)
  exact Rn.vret rfl (⟨rfl, rfl⟩)
/-- what trials leave as it was -/
def tF (F F1 : Nat → Nat → Int32) : Prop := (∀ k, k ≠ 24 → k ≠ 14 → F1 k = F k) ∧ F1 14 4 = F 14 4
def tI (I I1 : Nat → Nat → Int32) : Prop := ∀ k, k ≠ 26 → k ≠ 27 → k ≠ 28 → I1 k = I k
theorem tF.rfl (F : Nat → Nat → Int32) : tF F F := ⟨fun _ _ _ => Eq.refl _, Eq.refl _⟩
theorem tI.rfl (I : Nat → Nat → Int32) : tI I I := fun _ _ _ _ => Eq.refl _
theorem tF.fz {F F1 : Nat → Nat → Int32} (h : tF F F1) (z : Int32) : tF F (fzF F1 z) := ⟨fun k h1 h2 => (fzF_n F1 z h2).trans (h.1 k h1 h2), h.2⟩
theorem tF.wh {F F1 : Nat → Nat → Int32} (h : tF F F1) (f : Nat → Int32) : tF F (va_up F1 24 f) := ⟨fun k h1 h2 => (up_ne F1 f h1).trans (h.1 k h1 h2), (congrFun (up_ne F1 f (by decide)) 4).trans h.2⟩
theorem tI.up {I I1 : Nat → Nat → Int32} (h : tI I I1) {a : Nat} (ha : a = 26 ∨ a = 27 ∨ a = 28) (f : Nat → Int32) : tI I (va_up I1 a f) := fun k h1 h2 h3 => (up_ne I1 f (by omega)).trans (h k h1 h2 h3)
theorem HB.t {P : Nat} {E : xEv} {s : Nat → Int32} {F I F1 I1 : Nat → Nat → Int32} {H : Value} {m0 : xM} (h : HB P E s F I H m0) (hF : tF F F1) (hI : tI I I1) : HB P E s F1 I1 H m0 := by
  refine ⟨?_, h.wl, h.wx, h.wd, hF.2.trans h.se, h.fd, h.ru⟩
  unfold LR
  rw [hF.1 17 (by omega) (by omega), hI 18 (by omega) (by omega) (by omega), hI 19 (by omega) (by omega) (by omega), hI 20 (by omega) (by omega) (by omega), hI 21 (by omega) (by omega) (by omega), hI 22 (by omega) (by omega) (by omega)]
  exact h.lr
theorem HB.ln {P : Nat} {E : xEv} {s : Nat → Int32} {F I : Nat → Nat → Int32} {H : Value} {m0 : xM} (h : HB P E s F I H m0) {b : Int32} (hb : b = -1 ∨ ∃ c, c < E.Bn ∧ b = nI c) : HB P E (lnd s b) F I H m0 := h.to (lnd_fx s b) (lnd_wd h.wd h.wl.b6 hb)
theorem DB.ln {s : Nat → Int32} {N : Nat} (h : DB s N) (b : Int32) : DB (lnd s b) N := by
  obtain ⟨D, h1, h2⟩ := h
  exact ⟨D, h1, by rw [lnd_n _ _ (by omega)]; exact h2⟩
theorem c_T_tryLent {d Bn : Nat} (hd : 2 ≤ d) (hr : WR gg Bn s (I 9)) (hB : Bn ≤ 6) {b : Int32} (hb : b = -1 ∨ ¬ b < 0) : Cl d j_Trials_tryLent [.ref 24, .ref 8, .int b] (CC m0 F I L R H) (fun r m2 => r = none ∧ ∃ w2, m2 = CWm m0 F I L R H 25 w2 ∧ WR gg Bn (lnd s b) w2) := by
  show Rn d j_Trials_tryLent 0 _ _ _ _
  refine Rn.step (pc' := 1) rfl rfl ?_
  refine Rn.getf (pc' := 4) rfl rfl rfl rfl rfl ?_
  refine Rn.step (pc' := 5) rfl rfl ?_
  refine Rn.vv (pc' := 8) rfl (by decide) (by omega) rfl rfl rfl (c_W_copyFrom (o := 25) (o2 := 8) (by omega) (by unfold isW; omega) (by unfold isW; omega)) ?_
  refine Rn.step (pc' := 9) rfl rfl ?_
  refine Rn.getf (pc' := 12) rfl rfl rfl rfl rfl ?_
  refine Rn.step (pc' := 13) rfl rfl ?_
  refine Rn.vv (pc' := 16) rfl (by decide) (by omega) rfl rfl rfl (c_W_dress (o := 25) (by unfold isW; omega) b) ?_
  exact Rn.vret rfl (⟨rfl, _, rfl, WR.lnd (hr.cpy hB) hB hb⟩)
theorem l_T_most {d P N : Nat} {E : xEv} (hfd : E.fd = 0) (hh : HB P E s F I H m0) (hr : WR gg E.Bn s (I 9)) (hD : DB s 600) (hN : N < 199) (hd : 7 ≤ d) {wo : Int32} (k : Nat) (hk : k ≤ E.Bn) (x8 : Value) {m : xM} (hm : ∃ F1 I1 L1, m = CC m0 F1 I1 L1 R H ∧ tF F F1 ∧ tI I I1) : Rn d j_Trials_mostLent 20 [.ref 24, .ref 14, .ref 8, .int (nI N), .int wo, .int (flE E s N wo k).2, .int (flE E s N wo k).1, .int (nI k), x8] [] m (fun r m2 => r = some (.int ((flE E s N wo E.Bn).2)) ∧ ∃ F1 I1 L1, m2 = CC m0 F1 I1 L1 R H ∧ tF F F1 ∧ tI I I1 ∧ F1 24 3 = (flE E s N wo E.Bn).1) := by
  obtain ⟨F1, I1, L1, rfl, fs1, is1⟩ := hm
  have hb6 := hh.wl.b6
  refine Rn.step (pc' := 22) rfl rfl ?_
  refine Rn.step (pc' := 23) rfl rfl ?_
  refine Rn.getf (pc' := 26) rfl rfl rfl rfl rfl ?_
  refine Rn.getf (pc' := 29) rfl rfl rfl rfl rfl ?_
  refine Rn.icmp_ge (pc1 := 90) (pc2 := 32) rfl rfl rfl (fun h29 => ?_) (fun h29 => ?_)
  · obtain rfl := nI_up (by omega) hk (by rw [(hh.t fs1 is1).lr.b, hh.wl.b] at h29; exact h29)
    refine Rn.step (pc' := 91) rfl rfl ?_
    refine Rn.step (pc' := 93) rfl rfl ?_
    refine Rn.cput (pc' := 96) rfl rfl rfl rfl rfl (by decide) rfl ?_
    refine Rn.step (pc' := 98) rfl rfl ?_
    exact Rn.iret rfl (rfl) (⟨rfl, _, I1, L1, rfl, fs1.wh _, is1, rfl⟩)
  · have hk2 := nI_dn (by omega) hk (by rw [(hh.t fs1 is1).lr.b, hh.wl.b] at h29; exact h29)
    refine Rn.step (pc' := 34) rfl rfl ?_
    refine Rn.step (pc' := 36) rfl rfl ?_
    refine Rn.icmp_eq (pc1 := 84) (pc2 := 39) rfl rfl rfl (fun h36 => ?_) (fun h36 => ?_)
    · refine Rn.step (pc' := 87) rfl rfl ?_
      refine Rn.step (pc' := 20) rfl rfl ?_
      have e : flE E s N wo (k + 1) = flE E s N wo k := by rw [flE_s, if_pos (Or.inl h36)]
      have := l_T_most (wo := wo) hfd hh hr hD hN hd (k + 1) (by omega) x8 ⟨F1, I1, L1, rfl, fs1, is1⟩
      rw [e, ← nI_i1 k] at this
      exact this
    · refine Rn.step (pc' := 40) rfl rfl ?_
      refine Rn.getf (pc' := 43) rfl rfl rfl rfl rfl ?_
      refine Rn.step (pc' := 45) rfl rfl ?_
      refine Rn.vi (pc' := 48) rfl (by decide) (by omega) rfl rfl rfl (c_C_fits (hh.t fs1 is1).lr hh.wl.b6 hk2) ?_
      refine Rn.ifq_ne (pc1 := 54) (pc2 := 51) rfl rfl rfl (fun h48 => ?_) (fun h48 => ?_)
      · refine Rn.step (pc' := 55) rfl rfl ?_
        refine Rn.step (pc' := 56) rfl rfl ?_
        refine Rn.step (pc' := 58) rfl rfl ?_
        refine Rn.callV (pc' := 61) rfl (by decide) (by omega) rfl rfl rfl (c_T_tryLent (s := s) (gg := gg) (Bn := E.Bn) (by omega) (by rw [is1 9 (by omega) (by omega) (by omega)]; exact hr) hh.wl.b6 (hb_n hh.wl.b6 (Or.inr ⟨k, hk2, rfl⟩))) (fun r_ m_ hc_ => ?_)
        obtain ⟨rfl, w2, rfl, hr2⟩ := hc_
        refine Rn.step (pc' := 62) rfl rfl ?_
        refine Rn.step (pc' := 63) rfl rfl ?_
        refine Rn.step (pc' := 64) rfl rfl ?_
        refine Rn.callV (pc' := 67) rfl (by decide) (by omega) rfl rfl rfl (c_T_earn (gg := gg) hfd ((hh.t fs1 is1).ln (Or.inr ⟨k, hk2, rfl⟩)) ((hD.ln _).up (by omega)) hN (by omega) hr2) (fun r_ m_ hc_ => ?_)
        obtain ⟨rfl, z2, L2, w3, rfl, -⟩ := hc_
        refine Rn.step (pc' := 69) rfl rfl ?_
        refine Rn.step (pc' := 71) rfl rfl ?_
        refine Rn.step (pc' := 73) rfl rfl ?_
        refine Rn.icmp_le (pc1 := 84) (pc2 := 76) rfl rfl rfl (fun h73 => ?_) (fun h73 => ?_)
        · refine Rn.step (pc' := 87) rfl rfl ?_
          refine Rn.step (pc' := 20) rfl rfl ?_
          have e : flE E s N wo (k + 1) = flE E s N wo k := by rw [flE_s, if_neg (fun z => z.elim h36 h48), if_neg (Int32.not_lt.mpr h73)]
          have := l_T_most (wo := wo) hfd hh hr hD hN hd (k + 1) (by omega) (.int (oP E (lnd s (nI k)) N)) ⟨_, _, L2, rfl, fs1.fz z2, is1.up (Or.inl rfl) w3⟩
          rw [e, ← nI_i1 k] at this
          exact this
        · refine Rn.step (pc' := 78) rfl rfl ?_
          refine Rn.step (pc' := 80) rfl rfl ?_
          refine Rn.step (pc' := 82) rfl rfl ?_
          refine Rn.step (pc' := 84) rfl rfl ?_
          refine Rn.step (pc' := 87) rfl rfl ?_
          refine Rn.step (pc' := 20) rfl rfl ?_
          have e : flE E s N wo (k + 1) = (nI k, oP E (lnd s (nI k)) N) := by rw [flE_s, if_neg (fun z => z.elim h36 h48), if_pos (Int32.not_le.mp h73)]
          have := l_T_most (wo := wo) hfd hh hr hD hN hd (k + 1) (by omega) (.int (oP E (lnd s (nI k)) N)) ⟨_, _, L2, rfl, fs1.fz z2, is1.up (Or.inl rfl) w3⟩
          rw [e, ← nI_i1 k] at this
          exact this
      · refine Rn.step (pc' := 84) rfl rfl ?_
        refine Rn.step (pc' := 87) rfl rfl ?_
        refine Rn.step (pc' := 20) rfl rfl ?_
        have e : flE E s N wo (k + 1) = flE E s N wo k := by rw [flE_s, if_pos (Or.inr h48)]
        have := l_T_most (wo := wo) hfd hh hr hD hN hd (k + 1) (by omega) x8 ⟨F1, I1, L1, rfl, fs1, is1⟩
        rw [e, ← nI_i1 k] at this
        exact this
termination_by E.Bn - k
theorem c_T_most {d P N : Nat} {E : xEv} (hfd : E.fd = 0) (hh : HB P E s F I H m0) (hr : WR gg E.Bn s (I 9)) (hD : DB s 600) (hN : N < 199) (hd : 7 ≤ d) (wo : Int32) {m : xM} (hm : ∃ F1 I1 L1, m = CC m0 F1 I1 L1 R H ∧ tF F F1 ∧ tI I I1) : Cl d j_Trials_mostLent [.ref 24, .ref 14, .ref 8, .int (nI N), .int wo] m (fun r m2 => r = some (.int ((flE E s N wo E.Bn).2)) ∧ ∃ F1 I1 L1, m2 = CC m0 F1 I1 L1 R H ∧ tF F F1 ∧ tI I I1 ∧ F1 24 3 = (flE E s N wo E.Bn).1) := by
  obtain ⟨F1, I1, L1, rfl, fs1, is1⟩ := hm
  have hb6 := hh.wl.b6
  show Rn d j_Trials_mostLent 0 _ _ _ _
  refine Rn.step (pc' := 1) rfl rfl ?_
  refine Rn.step (pc' := 2) rfl rfl ?_
  refine Rn.iconst (v := (-1)) (pc' := 3) rfl (by decide) rfl ?_
  refine Rn.callV (pc' := 6) rfl (by decide) (by omega) rfl rfl rfl (c_T_tryLent (s := s) (gg := gg) (Bn := E.Bn) (by omega) (by rw [is1 9 (by omega) (by omega) (by omega)]; exact hr) hh.wl.b6 (hb_n hh.wl.b6 (Or.inl rfl))) (fun r_ m_ hc_ => ?_)
  obtain ⟨rfl, w2, rfl, hr2⟩ := hc_
  refine Rn.step (pc' := 7) rfl rfl ?_
  refine Rn.step (pc' := 8) rfl rfl ?_
  refine Rn.step (pc' := 9) rfl rfl ?_
  refine Rn.callV (pc' := 12) rfl (by decide) (by omega) rfl rfl rfl (c_T_earn (gg := gg) hfd ((hh.t fs1 is1).ln (Or.inl rfl)) ((hD.ln _).up (by omega)) hN (by omega) hr2) (fun r_ m_ hc_ => ?_)
  obtain ⟨rfl, z2, L2, w3, rfl, -⟩ := hc_
  refine Rn.step (pc' := 14) rfl rfl ?_
  refine Rn.iconst (v := (-1)) (pc' := 15) rfl (by decide) rfl ?_
  refine Rn.step (pc' := 17) rfl rfl ?_
  refine Rn.iconst (v := 0) (pc' := 18) rfl (by decide) rfl ?_
  refine Rn.step (pc' := 20) rfl rfl ?_
  exact l_T_most hfd hh hr hD hN hd 0 (by omega) _ ⟨_, _, L2, rfl, fs1.fz z2, is1.up (Or.inl rfl) w3⟩
abbrev mx (x y : Int32) : Int32 := if x < y then y else x
abbrev mn (x y : Int32) : Int32 := if y < x then y else x
/-- the class's two greatest bids and the model's -/
def BI (q : Int32 × Int32 × Int32) (g n : Int32) : Prop := ∃ c, c ≤ 100 ∧ q.1 = nI c ∧ (c = 0 → g = 0 ∧ n = 0) ∧ (1 ≤ c → g = mx 0 q.2.1) ∧ (c = 1 → n = 0) ∧ (2 ≤ c → n = mx 0 q.2.2 ∧ ¬ q.2.1 < q.2.2)
theorem i0 : (0 : Int32).toInt = 0 := by decide
theorem mx_0 (d : Int32) : mx 0 (mn d 0) = 0 := by
  unfold mx mn
  simp only [Int32.lt_iff_toInt_lt, i0]
  repeat' split
  all_goals first | rfl | (exfalso; (try simp only [i0] at *); omega)
theorem mx_1 {f d : Int32} (h : f < d) : mx 0 (mn d (mx 0 f)) = mx 0 f := by
  unfold mx mn
  simp only [Int32.lt_iff_toInt_lt, i0] at *
  repeat' split
  all_goals first | rfl | (exfalso; (try simp only [i0] at *); omega)
theorem mx_2 {f d : Int32} (h : ¬ f < d) : mx 0 (mn d (mx 0 f)) = mx 0 d := by
  unfold mx mn
  simp only [Int32.lt_iff_toInt_lt, i0] at *
  repeat' split
  all_goals first | rfl | (exfalso; (try simp only [i0] at *); omega) | (apply Int32.toInt_inj.mp; (try simp only [i0] at *); omega)
theorem mx_3 {f d x : Int32} (h : f < d) (hx : ¬ f < x) : mx (mx 0 x) (mn d (mx 0 f)) = mx 0 f := by
  unfold mx mn
  simp only [Int32.lt_iff_toInt_lt, i0] at *
  repeat' split
  all_goals first | rfl | (exfalso; (try simp only [i0] at *); omega) | (apply Int32.toInt_inj.mp; (try simp only [i0] at *); omega)
theorem mx_4 {f d x : Int32} (h : ¬ f < d) (hx : x < d) : mx (mx 0 x) (mn d (mx 0 f)) = mx 0 d := by
  unfold mx mn
  simp only [Int32.lt_iff_toInt_lt, i0] at *
  repeat' split
  all_goals first | rfl | (exfalso; (try simp only [i0] at *); omega) | (apply Int32.toInt_inj.mp; (try simp only [i0] at *); omega)
theorem mx_5 {f d x : Int32} (h : ¬ f < d) (hx : ¬ x < d) : mx (mx 0 x) (mn d (mx 0 f)) = mx 0 x := by
  unfold mx mn
  simp only [Int32.lt_iff_toInt_lt, i0] at *
  repeat' split
  all_goals first | rfl | (exfalso; (try simp only [i0] at *); omega) | (apply Int32.toInt_inj.mp; (try simp only [i0] at *); omega)
theorem mx_6 {f d : Int32} (h : f < d) : mx (mx 0 f) d = mx 0 d := by
  unfold mx
  simp only [Int32.lt_iff_toInt_lt, i0] at *
  repeat' split
  all_goals first | rfl | (exfalso; (try simp only [i0] at *); omega) | (apply Int32.toInt_inj.mp; (try simp only [i0] at *); omega)
theorem mx_7 {f d : Int32} (h : ¬ f < d) : mx (mx 0 f) d = mx 0 f := by
  unfold mx
  simp only [Int32.lt_iff_toInt_lt, i0] at *
  repeat' split
  all_goals first | rfl | (exfalso; (try simp only [i0] at *); omega) | (apply Int32.toInt_inj.mp; (try simp only [i0] at *); omega)
def bst (q : Int32 × Int32 × Int32) (b : Int32) : Int32 × Int32 × Int32 := if q.1 = 0 ∨ q.2.1 < b then (q.1 + 1, b, if q.1 = 0 then 0 else q.2.1) else if q.1 = 1 ∨ q.2.2 < b then (q.1 + 1, q.2.1, b) else (q.1 + 1, q.2.1, q.2.2)
theorem BI.step {q : Int32 × Int32 × Int32} {g n b : Int32} (h : BI q g n) (hc : ∃ c, c < 50 ∧ q.1 = nI c) : BI (bst q b) (mx g b) (mx n (mn b g)) := by
  obtain ⟨c, hcc, h1, h2, h3, h4, h5⟩ := h
  obtain ⟨c', hc1, hc2⟩ := hc
  have ec : c' = c := by
    have := hc2.symm.trans h1
    exact (nI_eq (by omega) (by omega)).mp this
  subst ec
  have hz : q.1 = 0 ↔ c' = 0 := by
    rw [h1]
    exact ⟨fun z => (nI_eq (b := 0) (by omega) (by omega)).mp z, fun z => by rw [z]; rfl⟩
  have ho : q.1 = 1 ↔ c' = 1 := by
    rw [h1]
    exact ⟨fun z => (nI_eq (b := 1) (by omega) (by omega)).mp z, fun z => by rw [z]; rfl⟩
  have e1 : q.1 + 1 = nI (c' + 1) := by rw [h1, nI_1]
  unfold bst
  by_cases c0 : c' = 0
  · obtain ⟨rfl, rfl⟩ := h2 c0
    rw [if_pos (Or.inl (hz.mpr c0)), if_pos (hz.mpr c0)]
    exact ⟨c' + 1, by omega, e1, fun z => absurd z (by omega), fun _ => rfl, fun _ => mx_0 b, fun z => absurd z (by omega)⟩
  · have hg := h3 (by omega)
    subst hg
    by_cases hb : q.2.1 < b
    · rw [if_pos (Or.inr hb), if_neg (mt hz.mp c0)]
      refine ⟨c' + 1, by omega, e1, fun z => absurd z (by omega), fun _ => mx_6 hb, fun z => absurd z (by omega), fun _ => ⟨?_, fun z => Int32.not_lt.mpr (Int32.le_of_lt hb) z⟩⟩
      by_cases c1 : c' = 1
      · rw [h4 c1]
        exact mx_1 hb
      · obtain ⟨e2, e3⟩ := h5 (by omega)
        rw [e2]
        exact mx_3 hb e3
    · rw [if_neg (fun z => z.elim (mt hz.mp c0) hb)]
      by_cases c1 : c' = 1
      · rw [if_pos (Or.inl (ho.mpr c1)), h4 c1]
        exact ⟨c' + 1, by omega, e1, fun z => absurd z (by omega), fun _ => mx_7 hb, fun z => absurd z (by omega), fun _ => ⟨mx_2 hb, hb⟩⟩
      · obtain ⟨e2, e3⟩ := h5 (by omega)
        by_cases hx : q.2.2 < b
        · rw [if_pos (Or.inr hx), e2]
          exact ⟨c' + 1, by omega, e1, fun z => absurd z (by omega), fun _ => mx_7 hb, fun z => absurd z (by omega), fun _ => ⟨mx_4 hb hx, hb⟩⟩
        · rw [if_neg (fun z => z.elim (mt ho.mp c1) hx), e2]
          exact ⟨c' + 1, by omega, e1, fun z => absurd z (by omega), fun _ => mx_7 hb, fun z => absurd z (by omega), fun _ => ⟨mx_5 hb hx, e3⟩⟩
theorem BI.ans {q : Int32 × Int32 × Int32} {g n : Int32} (h : BI q g n) : n = bdA q := by
  obtain ⟨c, hc, h1, h2, h3, h4, h5⟩ := h
  unfold bdA
  by_cases c2 : 2 ≤ c
  · obtain ⟨e2, -⟩ := h5 c2
    have : ¬ q.1 < 2 := by
      rw [h1]
      exact fun z => absurd ((nI_ltI (a := c) (b := 2) (by omega) (by omega)).mp z) (by omega)
    rw [e2]
    by_cases hx : q.2.2 < 0
    · rw [if_pos (Or.inr hx)]
      unfold mx
      rw [if_neg (fun z => Int32.not_lt.mpr (Int32.le_of_lt z) hx)]
    · rw [if_neg (fun z => z.elim this hx)]
      unfold mx
      split
      · rfl
      · rename_i hy
        exact Int32.toInt_inj.mp (by
          have a := Int32.not_lt.mp hx
          have b := Int32.not_lt.mp hy
          rw [Int32.le_iff_toInt_le] at a b
          omega)
  · rw [if_pos (Or.inl (by
      rw [h1]
      exact (nI_ltI (a := c) (b := 2) (by omega) (by omega)).mpr (by omega)))]
    by_cases c0 : c = 0
    · exact (h2 c0).2
    · exact h4 (by omega)
theorem bdE_s (E : xEv) (s : Nat → Int32) (N k : Nat) : bdE E s N (k + 1) = if s 1 < s (10 + 6 * k + 2) then bdE E s N k else bst (bdE E s N k) (oP E (lnd s (nI k)) N - oP E (lnd s (-1)) N) := by
  rw [bdE]
  rfl
theorem bdE_c (E : xEv) (s : Nat → Int32) (N : Nat) : ∀ k, k < 50 → ∃ c, c ≤ k ∧ (bdE E s N k).1 = nI c
  | 0, _ => ⟨0, by omega, rfl⟩
  | k + 1, h => by
    obtain ⟨c, h1, h2⟩ := bdE_c E s N k (by omega)
    rw [bdE_s]
    split
    · exact ⟨c, by omega, h2⟩
    · refine ⟨c + 1, by omega, ?_⟩
      unfold bst
      repeat' split
      all_goals (rw [h2, nI_1])
theorem l_T_bid {d P N : Nat} {E : xEv} (hfd : E.fd = 0) (hh : HB P E s F I H m0) (hr : WR gg E.Bn s (I 9)) (hD : DB s 600) (hN : N < 199) (hd : 7 ≤ d) {g9 n9 : Int32} (k : Nat) (hk : k ≤ E.Bn) (hbi : BI (bdE E s N k) g9 n9) (x8 : Value) {m : xM} (hm : ∃ F1 I1 L1, m = CC m0 F1 I1 L1 R H ∧ tF F F1 ∧ tI I I1) : Rn d j_Trials_secondBid 23 [.ref 24, .ref 14, .ref 8, .int (nI N), .int (oP E (lnd s (-1)) N), .int g9, .int n9, .int (nI k), x8] [] m (fun r m2 => r = some (.int (bdA (bdE E s N E.Bn))) ∧ ∃ F1 I1 L1, m2 = CC m0 F1 I1 L1 R H ∧ tF F F1 ∧ tI I I1) := by
  obtain ⟨F1, I1, L1, rfl, fs1, is1⟩ := hm
  have hb6 := hh.wl.b6
  refine Rn.step (pc' := 25) rfl rfl ?_
  refine Rn.step (pc' := 26) rfl rfl ?_
  refine Rn.getf (pc' := 29) rfl rfl rfl rfl rfl ?_
  refine Rn.getf (pc' := 32) rfl rfl rfl rfl rfl ?_
  refine Rn.icmp_ge (pc1 := 94) (pc2 := 35) rfl rfl rfl (fun h32 => ?_) (fun h32 => ?_)
  · obtain rfl := nI_up (by omega) hk (by rw [(hh.t fs1 is1).lr.b, hh.wl.b] at h32; exact h32)
    refine Rn.step (pc' := 96) rfl rfl ?_
    exact Rn.iret rfl (rfl) (⟨congrArg (fun z => some (Value.int z)) hbi.ans, F1, I1, L1, rfl, fs1, is1⟩)
  · have hk2 := nI_dn (by omega) hk (by rw [(hh.t fs1 is1).lr.b, hh.wl.b] at h32; exact h32)
    refine Rn.step (pc' := 36) rfl rfl ?_
    refine Rn.getf (pc' := 39) rfl rfl rfl rfl rfl ?_
    refine Rn.step (pc' := 41) rfl rfl ?_
    refine Rn.vi (pc' := 44) rfl (by decide) (by omega) rfl rfl rfl (c_C_fits (hh.t fs1 is1).lr hh.wl.b6 hk2) ?_
    refine Rn.ifq_eq (pc1 := 88) (pc2 := 47) rfl rfl rfl (fun h44 => ?_) (fun h44 => ?_)
    · refine Rn.step (pc' := 91) rfl rfl ?_
      refine Rn.step (pc' := 23) rfl rfl ?_
      have e : bdE E s N (k + 1) = bdE E s N k := by rw [bdE_s, if_pos h44]
      exact Rn.ls9 rfl rfl rfl rfl rfl rfl rfl (congrArg Value.int (nI_i1 k)) rfl (l_T_bid hfd hh hr hD hN hd (k + 1) (by omega) (by rw [e]; exact hbi) _ ⟨F1, I1, L1, rfl, fs1, is1⟩)
    · refine Rn.step (pc' := 48) rfl rfl ?_
      refine Rn.step (pc' := 49) rfl rfl ?_
      refine Rn.step (pc' := 51) rfl rfl ?_
      refine Rn.callV (pc' := 54) rfl (by decide) (by omega) rfl rfl rfl (c_T_tryLent (s := s) (gg := gg) (Bn := E.Bn) (by omega) (by rw [is1 9 (by omega) (by omega) (by omega)]; exact hr) hh.wl.b6 (hb_n hh.wl.b6 (Or.inr ⟨k, hk2, rfl⟩))) (fun r_ m_ hc_ => ?_)
      obtain ⟨rfl, w2, rfl, hr2⟩ := hc_
      refine Rn.step (pc' := 55) rfl rfl ?_
      refine Rn.step (pc' := 56) rfl rfl ?_
      refine Rn.step (pc' := 57) rfl rfl ?_
      refine Rn.callV (pc' := 60) rfl (by decide) (by omega) rfl rfl rfl (c_T_earn (gg := gg) hfd ((hh.t fs1 is1).ln (Or.inr ⟨k, hk2, rfl⟩)) ((hD.ln _).up (by omega)) hN (by omega) hr2) (fun r_ m_ hc_ => ?_)
      obtain ⟨rfl, z2, L2, w3, rfl, -⟩ := hc_
      refine Rn.step (pc' := 62) rfl rfl ?_
      refine Rn.isub (pc' := 63) rfl rfl ?_
      refine Rn.step (pc' := 65) rfl rfl ?_
      refine Rn.step (pc' := 67) rfl rfl ?_
      refine Rn.step (pc' := 69) rfl rfl ?_
      refine Rn.step (pc' := 71) rfl rfl ?_
      refine Rn.si (pc' := 74) rfl (by decide) (by omega) rfl rfl (c_min _ _) ?_
      refine Rn.si (pc' := 77) rfl (by decide) (by omega) rfl rfl (c_max _ _) ?_
      refine Rn.step (pc' := 79) rfl rfl ?_
      refine Rn.step (pc' := 81) rfl rfl ?_
      refine Rn.step (pc' := 83) rfl rfl ?_
      refine Rn.si (pc' := 86) rfl (by decide) (by omega) rfl rfl (c_max _ _) ?_
      refine Rn.step (pc' := 88) rfl rfl ?_
      refine Rn.step (pc' := 91) rfl rfl ?_
      refine Rn.step (pc' := 23) rfl rfl ?_
      have e : bdE E s N (k + 1) = bst (bdE E s N k) (oP E (lnd s (nI k)) N - oP E (lnd s (-1)) N) := by rw [bdE_s, if_neg h44]
      obtain ⟨c, hc1, hc2⟩ := bdE_c E s N k (by omega)
      exact Rn.ls9 rfl rfl rfl rfl rfl rfl rfl (congrArg Value.int (nI_i1 k)) rfl (l_T_bid hfd hh hr hD hN hd (k + 1) (by omega) (by rw [e]; exact hbi.step ⟨c, by omega, hc2⟩) _ ⟨_, _, L2, rfl, fs1.fz z2, is1.up (Or.inl rfl) w3⟩)
termination_by E.Bn - k
theorem c_T_bid {d P N : Nat} {E : xEv} (hfd : E.fd = 0) (hh : HB P E s F I H m0) (hr : WR gg E.Bn s (I 9)) (hD : DB s 600) (hN : N < 199) (hd : 7 ≤ d) {m : xM} (hm : ∃ F1 I1 L1, m = CC m0 F1 I1 L1 R H ∧ tF F F1 ∧ tI I I1) : Cl d j_Trials_secondBid [.ref 24, .ref 14, .ref 8, .int (nI N)] m (fun r m2 => r = some (.int (bdA (bdE E s N E.Bn))) ∧ ∃ F1 I1 L1, m2 = CC m0 F1 I1 L1 R H ∧ tF F F1 ∧ tI I I1) := by
  obtain ⟨F1, I1, L1, rfl, fs1, is1⟩ := hm
  have hb6 := hh.wl.b6
  show Rn d j_Trials_secondBid 0 _ _ _ _
  refine Rn.step (pc' := 1) rfl rfl ?_
  refine Rn.step (pc' := 2) rfl rfl ?_
  refine Rn.iconst (v := (-1)) (pc' := 3) rfl (by decide) rfl ?_
  refine Rn.callV (pc' := 6) rfl (by decide) (by omega) rfl rfl rfl (c_T_tryLent (s := s) (gg := gg) (Bn := E.Bn) (by omega) (by rw [is1 9 (by omega) (by omega) (by omega)]; exact hr) hh.wl.b6 (hb_n hh.wl.b6 (Or.inl rfl))) (fun r_ m_ hc_ => ?_)
  obtain ⟨rfl, w2, rfl, hr2⟩ := hc_
  refine Rn.step (pc' := 7) rfl rfl ?_
  refine Rn.step (pc' := 8) rfl rfl ?_
  refine Rn.step (pc' := 9) rfl rfl ?_
  refine Rn.callV (pc' := 12) rfl (by decide) (by omega) rfl rfl rfl (c_T_earn (gg := gg) hfd ((hh.t fs1 is1).ln (Or.inl rfl)) ((hD.ln _).up (by omega)) hN (by omega) hr2) (fun r_ m_ hc_ => ?_)
  obtain ⟨rfl, z2, L2, w3, rfl, -⟩ := hc_
  refine Rn.step (pc' := 14) rfl rfl ?_
  refine Rn.iconst (v := 0) (pc' := 15) rfl (by decide) rfl ?_
  refine Rn.step (pc' := 17) rfl rfl ?_
  refine Rn.iconst (v := 0) (pc' := 18) rfl (by decide) rfl ?_
  refine Rn.step (pc' := 20) rfl rfl ?_
  refine Rn.iconst (v := 0) (pc' := 21) rfl (by decide) rfl ?_
  refine Rn.step (pc' := 23) rfl rfl ?_
  exact l_T_bid hfd hh hr hD hN hd 0 (by omega) ⟨0, by omega, rfl, fun _ => ⟨rfl, rfl⟩, fun z => absurd z (by omega), fun z => absurd z (by omega), fun z => absurd z (by omega)⟩ _ ⟨_, _, L2, rfl, fs1.fz z2, is1.up (Or.inl rfl) w3⟩
end CG0
