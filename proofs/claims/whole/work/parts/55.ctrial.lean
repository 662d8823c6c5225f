/-! THE CLASS: an hour, hours, trials. -/
section CF
variable {m0 : xM} {F I : Nat → Nat → Int32} {L : Nat → Nat → Int64} {R : Nat → Nat → Option Nat} {H : Value} {s w : Nat → Int32} {o : Nat} {gg : Prop}
theorem mWl_n {s : Nat → Int32} {b : Nat} {wear : Int32} {way : Int64} {i : Nat} (h1 : i ≠ 10 + 6 * b) (h2 : i ≠ 48) (h3 : i ≠ 51) : mWl s b wear way i = s i := by
  unfold mWl
  split
  · rfl
  · split
    · rw [mWo_out _ _ _ 2 i (fun j hj => by omega), upd_n _ _ h1]
    · rfl
theorem mCh_n {s : Nat → Int32} {sec much : Int32} {b i : Nat} (h1 : i ≠ 10 + 6 * b + 3) (h2 : i ≠ 10 + 6 * b + 4) : mCh s sec much b i = s i := by
  unfold mCh
  split
  · rw [upd_n _ _ h1]
  · rw [upd_n _ _ h2, upd_n _ _ h1]
theorem mPy_n {P Bn Fn Wn : Nat} {s : Nat → Int32} (h : WL P Bn Fn Wn s) {i : Nat} (hi : i < 10) : (mPy s Wn).1 i = s i := mPy_out (fun k hk => by
  obtain ⟨c, h1, h2⟩ := h.wb k hk
  have := h.b6
  exact ⟨c, by omega, h2⟩) Wn (Nat.le_refl _) i (fun b hb => by omega)
theorem pWk_n (E : xEv) (much : Int32) (s : Nat → Int32) {i : Nat} (hi : i < 10) : ∀ k, pWk E much s k i = s i
  | 0 => rfl
  | k + 1 => by
    rw [pWk_s, mWl_n (by omega) (by omega) (by omega)]
    exact pWk_n E much s hi k
theorem pCh_n (sec much : Int32) (s : Nat → Int32) (z : Int32) {i : Nat} (hi : i < 10) : ∀ k, (pCh sec much s z k).1 i = s i
  | 0 => rfl
  | k + 1 => by
    rw [pCh_s]
    show mCh _ _ _ _ i = _
    rw [mCh_n (by omega) (by omega)]
    exact pCh_n sec much s z hi k
theorem pHm_n (s : Nat → Int32) {i : Nat} (hi : i < 10) : ∀ k, pHm s k i = s i
  | 0 => rfl
  | k + 1 => by
    rw [pHm_s, gHm, upd_n _ _ (by omega), upd_n _ _ (by omega), upd_n _ _ (by omega)]
    exact pHm_n s hi k
theorem pB_n {P : Nat} {E : xEv} {s : Nat → Int32} (h : WL P E.Bn E.Fn E.Wn s) (z : Int32) {i : Nat} (hi : i < 10) : (pB E s z).1 i = s i := by
  unfold pB
  rw [pCh_n _ _ _ _ hi, pWk_n _ _ _ hi, mPy_n h hi]
theorem pTn_6 (Bn : Nat) (s : Nat → Int32) : pTn Bn s 6 = s 6 ∨ pTn Bn s 6 = s 6 + 1 := by
  unfold pTn
  split
  · exact Or.inl (upd_n _ _ (by omega))
  · rw [pHm_n _ (by omega), upd_s, upd_n _ _ (by omega), upd_n _ _ (by omega)]
    exact Or.inr rfl
theorem hS_6 {P : Nat} {E : xEv} {s : Nat → Int32} (h : WL P E.Bn E.Fn E.Wn s) {D : Nat} (hD : s 6 = nI D) : ∃ D2, D2 ≤ D + 1 ∧ hS E s 6 = nI D2 := by
  have e : (pB E s 0).1 6 = nI D := (pB_n h 0 (by omega)).trans hD
  rcases pTn_6 E.Bn (pB E s 0).1 with h1 | h1
  · exact ⟨D, by omega, h1.trans e⟩
  · exact ⟨D + 1, Nat.le_refl _, h1.trans (by rw [e, nI_1])⟩
/-- the day is so low that the years never end -/
def DB (s : Nat → Int32) (N : Nat) : Prop := ∃ D, D ≤ N ∧ s 6 = nI D
theorem DB.up {s : Nat → Int32} {N M : Nat} (h : DB s N) (hm : N ≤ M) : DB s M := by
  obtain ⟨D, h1, h2⟩ := h
  exact ⟨D, by omega, h2⟩
theorem DB.hour {P : Nat} {E : xEv} {s : Nat → Int32} {N : Nat} (h : DB s N) (hl : WL P E.Bn E.Fn E.Wn s) : DB (hS E s) (N + 1) := by
  obtain ⟨D, h1, h2⟩ := h
  obtain ⟨D2, h3, h4⟩ := hS_6 hl h2
  exact ⟨D2, by omega, h4⟩
theorem DB.hours {P : Nat} {E : xEv} {s : Nat → Int32} {N : Nat} (h : DB s N) (hl : WL P E.Bn E.Fn E.Wn s) (hw : WD P E.Bn s) : ∀ n, DB (oS E s n) (N + n)
  | 0 => h
  | n + 1 => by
    rw [oS_s]
    exact (DB.hours h hl hw n).hour (hl.fx (mPo_w 0 hl hw n).1)
theorem mFr_eq {P Bn Fn Wn : Nat} {s t : Nat → Int32} (f : Int32) (g : FX s t) (h5 : t 5 = s 5) : ∀ k, mFr t f k = mFr s f k
  | 0 => rfl
  | k + 1 => by
    rw [mFr_s, mFr_s, mFr_eq (P := P) (Bn := Bn) (Fn := Fn) (Wn := Wn) f g h5 k, h5, g (52 + 2 * k) (by unfold fxc; omega), g (52 + 2 * k + 1) (by unfold fxc; omega)]
theorem l_H_ch {d P : Nat} {E : xEv} (ho : isW o) {t : Nat → Int32} {fl ea mu : Int32} {x2 : Int32} (hmu : mu = if fl = 0 then 1 else 2) (hh : HB P E t F I H m0) (hD : ∃ D, D < 999 ∧ t 6 = nI D) (hd : 3 ≤ d) (k : Nat) (hk : k ≤ E.Bn) (w : Nat → Int32) (hr : WR gg E.Bn (pCh E.sec (mu) t (F 14 5) k).1 w) : Rn d j_Hours_pass 79 [.ref 14, .ref o, .int x2, .int fl, .int ea, .int (nI k)] [] (CWm m0 (fzF F (pCh E.sec (mu) t (F 14 5) k).2) I L R H o w) (fun r m2 => r = some (.int ea) ∧ ∃ L2 w2, m2 = CWm m0 (fzF F (pCh E.sec (mu) t (F 14 5) E.Bn).2) I L2 R H o w2 ∧ WR gg E.Bn (pTn E.Bn (pCh E.sec (mu) t (F 14 5) E.Bn).1) w2) := by
  subst hmu
  have hpc := pCh_w E.sec (if fl = 0 then (1 : Int32) else 2) (F 14 5) hh.wl hh.wd k hk
  have hh2 := hh.to hpc.1 hpc.2
  have hb6 := hh.wl.b6
  refine Rn.step (pc' := 81) rfl rfl ?_
  refine Rn.step (pc' := 82) rfl rfl ?_
  refine Rn.getf (pc' := 85) rfl rfl rfl rfl rfl ?_
  refine Rn.getf (pc' := 88) rfl rfl rfl rfl rfl ?_
  refine Rn.icmp_ge (pc1 := 105) (pc2 := 91) rfl rfl rfl (fun h88 => ?_) (fun h88 => ?_)
  · obtain rfl := nI_up (by omega) hk (by rw [show fzF F _ 17 10 = F 17 10 from rfl, hh.lr.b, hh.wl.b] at h88; exact h88)
    have hD2 : ∃ D, D < 999 ∧ (pCh E.sec (if fl = 0 then (1 : Int32) else 2) t (F 14 5) E.Bn).1 6 = nI D := by
      obtain ⟨D, h1, h2⟩ := hD
      exact ⟨D, h1, by rw [pCh_n _ _ _ _ (by omega)]; exact h2⟩
    refine Rn.step (pc' := 106) rfl rfl ?_
    refine Rn.step (pc' := 107) rfl rfl ?_
    refine Rn.callV (pc' := 110) rfl (by decide) (by omega) rfl rfl rfl (c_H_turn (by omega) ho (hh2.lr) hh2.wl hh2.wd hr hD2) (fun r_ m_ hc_ => ?_)
    obtain ⟨rfl, w2, rfl, hr2⟩ := hc_
    refine Rn.step (pc' := 112) rfl rfl ?_
    exact Rn.iret rfl (rfl) (⟨rfl, L, w2, rfl, hr2⟩)
  · have hk2 := nI_dn (by omega) hk (by rw [show fzF F _ 17 10 = F 17 10 from rfl, hh.lr.b, hh.wl.b] at h88; exact h88)
    refine Rn.step (pc' := 92) rfl rfl ?_
    refine Rn.step (pc' := 93) rfl rfl ?_
    refine Rn.step (pc' := 95) rfl rfl ?_
    refine Rn.step (pc' := 96) rfl rfl ?_
    refine Rn.callV (pc' := 99) rfl (by decide) (by omega) rfl rfl rfl (c_H_chill (by omega) ho hh2.lr hh2.wl hh2.wd hr hh2.se hk2) (fun r_ m_ hc_ => ?_)
    obtain ⟨rfl, w2, rfl, hr2⟩ := hc_
    refine Rn.step (pc' := 102) rfl rfl ?_
    refine Rn.step (pc' := 79) rfl rfl ?_
    rw [fzF_u]
    exact Rn.ls6 rfl rfl rfl rfl rfl (congrArg Value.int (nI_i1 k)) (l_H_ch ho rfl hh hD hd (k + 1) (by omega) w2 hr2)
termination_by E.Bn - k
theorem l_H_wk {d P : Nat} {E : xEv} (ho : isW o) {t : Nat → Int32} {fl ea : Int32} {x2 : Int32} {L : Nat → Nat → Int64} (hmu : eMu E s = if fl = 0 then 1 else 2) (hfl : fl = mFr t E.fd E.Fn) (hh : HB P E t F I H m0) (hD : ∃ D, D < 999 ∧ t 6 = nI D) (hd : 4 ≤ d) (k : Nat) (hk : k ≤ E.Bn) (w : Nat → Int32) (hr : WR gg E.Bn (pWk E (eMu E s) t k) w) : Rn d j_Hours_pass 37 [.ref 14, .ref o, .int x2, .int fl, .int ea, .int (nI k)] [] (CWm m0 F I L R H o w) (fun r m2 => r = some (.int ea) ∧ ∃ L2 w2, m2 = CWm m0 (fzF F (pCh E.sec (eMu E s) (pWk E (eMu E s) t E.Bn) (F 14 5) E.Bn).2) I L2 R H o w2 ∧ WR gg E.Bn (pTn E.Bn (pCh E.sec (eMu E s) (pWk E (eMu E s) t E.Bn) (F 14 5) E.Bn).1) w2) := by
  have hpw := pWk_w (E := E) (eMu E s) hh.wl hh.wd k hk
  have hh2 := hh.to hpw.1 hpw.2
  have hb6 := hh.wl.b6
  refine Rn.step (pc' := 39) rfl rfl ?_
  refine Rn.step (pc' := 40) rfl rfl ?_
  refine Rn.getf (pc' := 43) rfl rfl rfl rfl rfl ?_
  refine Rn.getf (pc' := 46) rfl rfl rfl rfl rfl ?_
  refine Rn.icmp_ge (pc1 := 76) (pc2 := 49) rfl rfl rfl (fun h46 => ?_) (fun h46 => ?_)
  · refine Rn.iconst (v := 0) (pc' := 77) rfl (by decide) rfl ?_
    refine Rn.step (pc' := 79) rfl rfl ?_
    obtain rfl := nI_up (by omega) hk (by rw [hh.lr.b, hh.wl.b] at h46; exact h46)
    have hD2 : ∃ D, D < 999 ∧ pWk E (eMu E s) t E.Bn 6 = nI D := by
      obtain ⟨D, h1, h2⟩ := hD
      exact ⟨D, h1, by rw [pWk_n _ _ _ (by omega)]; exact h2⟩
    refine Rn.mm (m2 := CWm m0 (fzF F (F 14 5)) I L R H o w) (by rw [fzF_i]) ?_
    exact l_H_ch (L := L) ho hmu hh2 hD2 (by omega) 0 (by omega) w hr
  · have hk2 := nI_dn (by omega) hk (by rw [hh.lr.b, hh.wl.b] at h46; exact h46)
    have hfl2 : fl = mFr (pWk E (eMu E s) t k) E.fd E.Fn := by
      rw [mFr_eq (P := P) (Bn := E.Bn) (Fn := E.Fn) (Wn := E.Wn) E.fd hpw.1 (pWk_n E (eMu E s) t (by omega) k)]
      exact hfl
    refine Rn.step (pc' := 50) rfl rfl ?_
    refine Rn.cgw (pc' := 53) rfl ho rfl ?_
    refine Rn.iconst (v := 12) (pc' := 55) rfl (by decide) rfl ?_
    refine Rn.step (pc' := 57) rfl rfl ?_
    refine Rn.iadd (pc' := 58) rfl rfl ?_
    refine Rn.cwld (k := 12 + k) (pc' := 59) rfl ho (by simp only [nI_lit, nI_add, pk_mul, Nat.zero_add]) (by omega) (hr.fz k hk2) (by decide) rfl ?_
    refine Rn.ifc_ne (pc1 := 70) (pc2 := 62) rfl rfl rfl (fun h59 => ?_) (fun h59 => ?_)
    · refine Rn.step (pc' := 73) rfl rfl ?_
      refine Rn.step (pc' := 37) rfl rfl ?_
      have e : pWk E (eMu E s) t (k + 1) = pWk E (eMu E s) t k := by
        rw [pWk_s]
        unfold mWl
        rw [if_pos ((hh2.wd.fz k hk2).resolve_left h59)]
      exact Rn.ls6 rfl rfl rfl rfl rfl (congrArg Value.int (nI_i1 k)) (l_H_wk ho hmu hfl hh hD hd (k + 1) (by omega) w (by rw [e]; exact hr))
    · refine Rn.step (pc' := 63) rfl rfl ?_
      refine Rn.step (pc' := 64) rfl rfl ?_
      refine Rn.step (pc' := 66) rfl rfl ?_
      refine Rn.step (pc' := 67) rfl rfl ?_
      refine Rn.callV (pc' := 70) rfl (by decide) (by omega) rfl rfl rfl (c_H_walk ho hh2 hr hk2 (fun z => absurd (h59.symm.trans z) (by decide)) hfl2 (by omega)) (fun r_ m_ hc_ => ?_)
      obtain ⟨rfl, L2, w2, rfl, hr2⟩ := hc_
      refine Rn.step (pc' := 73) rfl rfl ?_
      refine Rn.step (pc' := 37) rfl rfl ?_
      have e : pWk E (eMu E s) t (k + 1) = mWl (pWk E (eMu E s) t k) k (if fl = 0 then 1 else 2) (mWy E.fo E.rl (pWk E (eMu E s) t k) E.sec E.fd E.Bn E.Fn E.Wn k) := by
        rw [pWk_s]
        rw [← hmu]
      exact Rn.ls6 rfl rfl rfl rfl rfl (congrArg Value.int (nI_i1 k)) (l_H_wk ho hmu hfl hh hD hd (k + 1) (by omega) w2 (by rw [e]; exact hr2))
termination_by E.Bn - k
theorem f_p26 {d P : Nat} {E : xEv} (ho : isW o) {fl x2 : Int32} (hh : HB P E s F I H m0) (hr : WR gg E.Bn s w) (hD : ∃ D, D < 999 ∧ s 6 = nI D) (hd : 5 ≤ d) (hfl : fl = mFr s E.fd E.Fn) : Rn d j_Hours_pass 26 [.ref 14, .ref o, .int x2, xb, xb, xb] [.int fl] (CWm m0 F I L R H o w) (fun r m2 => r = some (.int (hP E s)) ∧ ∃ L2 w2, m2 = CWm m0 (fzF F (mPs E s (F 14 5)).2.1) I L2 R H o w2 ∧ WR gg E.Bn (hS E s) w2) := by
  refine Rn.step (pc' := 27) rfl rfl ?_
  refine Rn.step (pc' := 28) rfl rfl ?_
  refine Rn.step (pc' := 29) rfl rfl ?_
  refine Rn.callV (pc' := 32) rfl (by decide) (by omega) rfl rfl rfl (c_H_pay ho hh.lr hh.wl hh.wd hr) (fun r_ m_ hc_ => ?_)
  obtain ⟨rfl, w2, rfl, hr2⟩ := hc_
  refine Rn.step (pc' := 34) rfl rfl ?_
  refine Rn.iconst (v := 0) (pc' := 35) rfl (by decide) rfl ?_
  refine Rn.step (pc' := 37) rfl rfl ?_
  have hmu : eMu E s = if fl = 0 then 1 else 2 := by
    unfold eMu
    rw [hfl]
  have hfx := mPy_fx hh.wl
  have hh2 := hh.to hfx (mPy_wd hh.wl hh.wd)
  have hfl2 : fl = mFr (mPy s E.Wn).1 E.fd E.Fn := by
    rw [mFr_eq (P := P) (Bn := E.Bn) (Fn := E.Fn) (Wn := E.Wn) E.fd hfx (mPy_n hh.wl (by omega))]
    exact hfl
  refine (l_H_wk ho hmu hfl2 hh2 (by
    obtain ⟨D, h1, h2⟩ := hD
    exact ⟨D, h1, by rw [mPy_n hh.wl (by omega)]; exact h2⟩) (by omega) 0 (by omega) w2 hr2).conseq ?_
  rintro r m2 ⟨rfl, L2, w3, rfl, h9⟩
  refine ⟨rfl, L2, w3, rfl, ?_⟩
  rw [show hS E s = (mPs E s (F 14 5)).1 from (mPs_z E s (F 14 5)).1.symm]
  exact h9
theorem c_H_pass {d P : Nat} {E : xEv} (ho : isW o) (hh : HB P E s F I H m0) (hr : WR gg E.Bn s w) (hD : ∃ D, D < 999 ∧ s 6 = nI D) (hd : 5 ≤ d) : Cl d j_Hours_pass [.ref 14, .ref o, .int E.fd] (CWm m0 F I L R H o w) (fun r m2 => r = some (.int (hP E s)) ∧ ∃ L2 w2, m2 = CWm m0 (fzF F (mPs E s (F 14 5)).2.1) I L2 R H o w2 ∧ WR gg E.Bn (hS E s) w2) := by
  show Rn d j_Hours_pass 0 _ _ _ _
  refine Rn.step (pc' := 1) rfl rfl ?_
  refine Rn.ifc_ne (pc1 := 21) (pc2 := 4) rfl rfl rfl (fun h1 => ?_) (fun h1 => ?_)
  · refine Rn.iconst (v := 1) (pc' := 22) rfl (by decide) rfl ?_
    refine Rn.step (pc' := 26) rfl rfl ?_
    exact f_p26 ho hh hr hD hd (by rw [hh.fd.resolve_left h1]; exact (mFr_mono (k := 0) rfl _ (Nat.zero_le _)).symm)
  · refine Rn.step (pc' := 5) rfl rfl ?_
    refine Rn.getf (pc' := 8) rfl rfl rfl rfl rfl ?_
    refine Rn.step (pc' := 9) rfl rfl ?_
    refine Rn.cgw (pc' := 12) rfl ho rfl ?_
    refine Rn.iconst (v := 30) (pc' := 14) rfl (by decide) rfl ?_
    refine Rn.cwld (k := 30) (pc' := 15) rfl ho (by simp only [nI_lit, nI_add, pk_mul, Nat.zero_add]) (by omega) (hr.h) (by decide) rfl ?_
    refine Rn.vi (pc' := 18) rfl (by decide) (by omega) rfl rfl rfl (c_C_hasFrost ((hh.lr).v ho _) hh.wl.f hh.wl.f4) ?_
    refine Rn.ifc_eq (pc1 := 25) (pc2 := 21) rfl rfl rfl (fun h18 => ?_) (fun h18 => ?_)
    · refine Rn.iconst (v := 0) (pc' := 26) rfl (by decide) rfl ?_
      exact f_p26 ho hh hr hD hd (by rw [h1]; exact h18.symm)
    · refine Rn.iconst (v := 1) (pc' := 22) rfl (by decide) rfl ?_
      refine Rn.step (pc' := 26) rfl rfl ?_
      exact f_p26 ho hh hr hD hd (by rw [h1]; exact ((mFr_b (Or.inl rfl) E.Fn).resolve_left h18).symm)
theorem l_T_earn {d P N : Nat} {E : xEv} (hfd : E.fd = 0) (hh : HB P E s F I H m0) (hD : DB s 800) (hN : N < 199) (hd : 6 ≤ d) (k : Nat) (hk : k ≤ N) {z : Int32} {L : Nat → Nat → Int64} (w : Nat → Int32) (hr : WR gg E.Bn (oS E s k) w) : Rn d j_Trials_earn 5 [.ref 24, .ref 14, .int (nI N), .int (oP E s k), .int (nI k)] [] (CWm m0 (fzF F z) I L R H 25 w) (fun r m2 => r = some (.int (oP E s N)) ∧ ∃ z L2 w2, m2 = CWm m0 (fzF F z) I L2 R H 25 w2 ∧ WR gg E.Bn (oS E s N) w2) := by
  have hw := mPo_w (E := E) 0 hh.wl hh.wd k
  have hh2 : HB P E (oS E s k) (fzF F z) I H m0 := (hh.to hw.1 hw.2).zf z
  refine Rn.step (pc' := 7) rfl rfl ?_
  refine Rn.step (pc' := 8) rfl rfl ?_
  refine Rn.icmp_ge (pc1 := 29) (pc2 := 11) rfl rfl rfl (fun h8 => ?_) (fun h8 => ?_)
  · obtain rfl := nI_up (by omega) hk h8
    refine Rn.step (pc' := 30) rfl rfl ?_
    exact Rn.iret rfl (rfl) (⟨rfl, z, L, w, rfl, hr⟩)
  · have hk2 := nI_dn (by omega) hk h8
    have hD2 : ∃ D, D < 999 ∧ oS E s k 6 = nI D := by
      obtain ⟨D, h1, h2⟩ := hD.hours hh.wl hh.wd k
      exact ⟨D, by omega, h2⟩
    refine Rn.step (pc' := 12) rfl rfl ?_
    refine Rn.step (pc' := 13) rfl rfl ?_
    refine Rn.step (pc' := 14) rfl rfl ?_
    refine Rn.getf (pc' := 17) rfl rfl rfl rfl rfl ?_
    refine Rn.iconst (v := 0) (pc' := 18) rfl (by decide) rfl ?_
    refine Rn.callV (pc' := 21) rfl (by decide) (by omega) rfl rfl rfl (hfd ▸ c_H_pass (o := 25) (by unfold isW; omega) hh2 hr hD2 (by omega)) (fun r_ m_ hc_ => ?_)
    obtain ⟨rfl, L2, w2, rfl, hr2⟩ := hc_
    refine Rn.iadd (pc' := 22) rfl rfl ?_
    refine Rn.step (pc' := 23) rfl rfl ?_
    refine Rn.step (pc' := 26) rfl rfl ?_
    refine Rn.step (pc' := 5) rfl rfl ?_
    have eP : oP E s (k + 1) = oP E s k + hP E (oS E s k) := by
      show (mPo E s 0 (k + 1)).2.2 = _
      rw [mPo_s]
      exact congrArg ((mPo E s 0 k).2.2 + ·) (mPs_z E _ _).2
    rw [fzF_u]
    have := l_T_earn hfd hh hD hN hd (k + 1) (by omega) (z := (mPs E (oS E s k) (fzF F z 14 5)).2.1) (L := L2) w2 (by rw [oS_s]; exact hr2)
    rw [eP, ← nI_i1 k] at this
    exact this
termination_by N - k
theorem c_T_earn {d P N : Nat} {E : xEv} (hfd : E.fd = 0) (hh : HB P E s F I H m0) (hD : DB s 800) (hN : N < 199) (hd : 6 ≤ d) (hr : WR gg E.Bn s w) : Cl d j_Trials_earn [.ref 24, .ref 14, .int (nI N)] (CWm m0 F I L R H 25 w) (fun r m2 => r = some (.int (oP E s N)) ∧ ∃ z L2 w2, m2 = CWm m0 (fzF F z) I L2 R H 25 w2 ∧ WR gg E.Bn (oS E s N) w2) := by
  refine Rn.mm (m2 := CWm m0 (fzF F (F 14 5)) I L R H 25 w) (by rw [fzF_i]) ?_
  show Rn d j_Trials_earn 0 _ _ _ _
  refine Rn.iconst (v := 0) (pc' := 1) rfl (by decide) rfl ?_
  refine Rn.step (pc' := 2) rfl rfl ?_
  refine Rn.iconst (v := 0) (pc' := 3) rfl (by decide) rfl ?_
  refine Rn.step (pc' := 5) rfl rfl ?_
  exact l_T_earn hfd hh hD hN hd 0 (by omega) w hr
end CF
