/-! THE CLASS: acts by hand, and the past. -/
section CQ
variable {m0 : xM} {F I : Nat → Nat → Int32} {L : Nat → Nat → Int64} {R : Nat → Nat → Option Nat} {H : Value} {s w : Nat → Int32} {o : Nat} {gg : Prop}
/-- the worlds of the past -/
def PA (n nx : Nat) (Hs : Nat → Nat → Int32) (Bn : Nat) (f r : Nat → Int32) : Prop := f 1 = nI nx ∧ nx < 20 ∧ f 2 = nI n ∧ n ≤ 20 ∧ ∀ i, i < n → WR True Bn (Hs i) (fun j => r (33 * ((nx + 20 - n + i) % 20) + j))
def kF (F F1 : Nat → Nat → Int32) : Prop := ∀ k, k ≠ 10 → F1 k = F k
def kI (I I1 : Nat → Nat → Int32) : Prop := ∀ k, k ≠ 11 → I1 k = I k
theorem c_P_keep {d n nx Bn : Nat} {Hs : Nat → Nat → Int32} (hd : 1 ≤ d) (hB : Bn ≤ 6) (hr : WR True Bn s (I 9)) (hp : PA n nx Hs Bn (F 10) (I 11)) : Cl d j_Past_keep [.ref 10, .ref 8] (CC m0 F I L R H) (fun r m2 => r = none ∧ ∃ F1 I1 nx1, m2 = CC m0 F1 I1 L R H ∧ kF F F1 ∧ kI I I1 ∧ PA (kN n) nx1 (kH n Hs s) Bn (F1 10) (I1 11)) := by
  obtain ⟨h1, h2, h3, h4, h5⟩ := hp
  show Rn d j_Past_keep 0 _ _ _ _
  refine Rn.step (pc' := 1) rfl rfl ?_
  refine Rn.getf (pc' := 4) rfl rfl rfl rfl rfl ?_
  refine Rn.iconst (v := 0) (pc' := 5) rfl (by decide) rfl ?_
  refine Rn.step (pc' := 6) rfl rfl ?_
  refine Rn.getf (pc' := 9) rfl rfl rfl rfl rfl ?_
  refine Rn.step (pc' := 10) rfl rfl ?_
  refine Rn.getf (pc' := 13) rfl rfl rfl rfl rfl ?_
  refine Rn.iconst (v := 33) (pc' := 15) rfl (by decide) rfl ?_
  refine Rn.imul (pc' := 16) rfl rfl ?_
  refine Rn.iconst (v := 33) (pc' := 18) rfl (by decide) rfl ?_
  rw [h1]
  refine Rn.ccopy (a0 := 9) (a := 11) (sp := 0) (dp := 33 * nx) (n := 33) (pc' := 21) rfl (by omega) rfl rfl rfl (by rw [Int32.mul_comm]; simp only [nI_lit, pk_mul]) rfl (by omega) (Nat.zero_le 8) rfl ?_
  refine Rn.step (pc' := 22) rfl rfl ?_
  refine Rn.step (pc' := 23) rfl rfl ?_
  refine Rn.getf (pc' := 26) rfl rfl rfl rfl rfl ?_
  refine Rn.iconst (v := 1) (pc' := 27) rfl (by decide) rfl ?_
  refine Rn.iadd (pc' := 28) rfl rfl ?_
  refine Rn.iconst (v := 20) (pc' := 30) rfl (by decide) rfl ?_
  refine Rn.irem (pc' := 31) rfl (by decide) rfl ?_
  rw [h1, show nI nx + 1 = nI (nx + 1) from nI_1 nx, show (20 : Int32) = nI 20 from rfl, pk_rem (by omega) (by omega) (by omega)]
  refine Rn.cput (pc' := 34) rfl rfl rfl rfl rfl (by decide) rfl ?_
  refine Rn.step (pc' := 35) rfl rfl ?_
  refine Rn.step (pc' := 36) rfl rfl ?_
  refine Rn.getf (pc' := 39) rfl rfl rfl rfl rfl ?_
  refine Rn.iconst (v := 1) (pc' := 40) rfl (by decide) rfl ?_
  refine Rn.iadd (pc' := 41) rfl rfl ?_
  refine Rn.iconst (v := 20) (pc' := 43) rfl (by decide) rfl ?_
  refine Rn.si (pc' := 46) rfl (by decide) (by omega) rfl rfl (c_min _ _) ?_
  refine Rn.cput (pc' := 49) rfl rfl rfl rfl rfl (by decide) rfl ?_
  refine Rn.vret rfl (⟨rfl, _, _, (nx + 1) % 20, rfl, fun k hk => by rw [up_ne _ _ hk, up_ne _ _ hk], fun k hk => up_ne I _ hk, rfl, Nat.mod_lt _ (by omega), (by
        show (if (20 : Int32) < F 10 2 + 1 then 20 else F 10 2 + 1) = nI (kN n)
        rw [h3, nI_1]
        unfold kN
        by_cases e : n = 20
        · rw [if_pos e, e, if_pos (by decide)]
          rfl
        · rw [if_neg e, if_neg (show ¬ (20 : Int32) < nI (n + 1) from fun z => absurd ((nI_ltI (a := 20) (b := n + 1) (by omega) (by omega)).mp z) (by omega))]), by unfold kN; split <;> omega, fun i hi => ?_⟩)
  rw [va_up_self]
  have hin : ∀ j, j < 33 → va_cpy (I 9) (I 11) 0 (33 * nx) 33 (33 * nx + j) = I 9 j := fun j hj => by
    rw [pk_cpy_in (by omega) (by omega), show 33 * nx + j - 33 * nx = j by omega, Nat.zero_add]
  have hout : ∀ p j, p ≠ nx → j < 33 → va_cpy (I 9) (I 11) 0 (33 * nx) 33 (33 * p + j) = I 11 (33 * p + j) := fun p j hp hj => pk_cpy_out (by omega)
  unfold kN at hi ⊢
  unfold kH
  by_cases e : n = 20
  · rw [if_pos e] at hi ⊢
    rw [if_pos e]
    by_cases ei : i = 19
    · rw [show ((nx + 1) % 20 + 20 - 20 + i) % 20 = nx by omega]
      show WR True Bn (if i = 19 then s else Hs (i + 1)) _
      rw [if_pos ei]
      exact hr.ext hB hin
    · show WR True Bn (if i = 19 then s else Hs (i + 1)) _
      rw [if_neg ei]
      have := h5 (i + 1) (by omega)
      rw [show (nx + 20 - n + (i + 1)) % 20 = ((nx + 1) % 20 + 20 - 20 + i) % 20 by omega] at this
      exact this.ext hB (fun j hj => hout _ j (by omega) hj)
  · rw [if_neg e] at hi ⊢
    rw [if_neg e]
    by_cases ei : i = n
    · rw [show ((nx + 1) % 20 + 20 - (n + 1) + i) % 20 = nx by omega]
      show WR True Bn (if i = n then s else Hs i) _
      rw [if_pos ei]
      exact hr.ext hB hin
    · show WR True Bn (if i = n then s else Hs i) _
      rw [if_neg ei]
      have := h5 i (by omega)
      rw [show (nx + 20 - n + i) % 20 = ((nx + 1) % 20 + 20 - (n + 1) + i) % 20 by omega] at this
      exact this.ext hB (fun j hj => hout _ j (by omega) hj)
theorem c_P_back {d n nx Bn : Nat} {Hs : Nat → Nat → Int32} (hd : 1 ≤ d) (hB : Bn ≤ 6) (hp : PA n nx Hs Bn (F 10) (I 11)) : Cl d j_Past_giveBack [.ref 10, .ref 8] (CC m0 F I L R H) (fun r m2 => (n = 0 → r = some (.int 0) ∧ m2 = CC m0 F I L R H) ∧ (n ≠ 0 → r = some (.int 1) ∧ ∃ F1 I1 nx1, m2 = CC m0 F1 I1 L R H ∧ kF F F1 ∧ (∀ k, k ≠ 9 → I1 k = I k) ∧ WR True Bn (Hs (n - 1)) (I1 9) ∧ PA (n - 1) nx1 Hs Bn (F1 10) (I1 11))) := by
  obtain ⟨h1, h2, h3, h4, h5⟩ := hp
  show Rn d j_Past_giveBack 0 _ _ _ _
  refine Rn.step (pc' := 1) rfl rfl ?_
  refine Rn.getf (pc' := 4) rfl rfl rfl rfl rfl ?_
  refine Rn.ifc_ne (pc1 := 9) (pc2 := 7) rfl rfl rfl (fun h4x => ?_) (fun h4x => ?_)
  · have hn0 : n ≠ 0 := fun z => h4x (by rw [h3, z]; rfl)
    refine Rn.step (pc' := 10) rfl rfl ?_
    refine Rn.step (pc' := 11) rfl rfl ?_
    refine Rn.getf (pc' := 14) rfl rfl rfl rfl rfl ?_
    refine Rn.iconst (v := 1) (pc' := 15) rfl (by decide) rfl ?_
    refine Rn.isub (pc' := 16) rfl rfl ?_
    refine Rn.cput (pc' := 19) rfl rfl rfl rfl rfl (by decide) rfl ?_
    refine Rn.step (pc' := 20) rfl rfl ?_
    refine Rn.step (pc' := 21) rfl rfl ?_
    refine Rn.getf (pc' := 24) rfl rfl rfl rfl rfl ?_
    refine Rn.iconst (v := 20) (pc' := 26) rfl (by decide) rfl ?_
    refine Rn.iadd (pc' := 27) rfl rfl ?_
    refine Rn.iconst (v := 1) (pc' := 28) rfl (by decide) rfl ?_
    refine Rn.isub (pc' := 29) rfl rfl ?_
    refine Rn.iconst (v := 20) (pc' := 31) rfl (by decide) rfl ?_
    refine Rn.irem (pc' := 32) rfl (by decide) rfl ?_
    rw [show va_up F 10 (upd (F 10) (194 % 64) (F 10 2 - 1)) 10 1 = nI nx from h1, show nI nx + 20 - 1 = nI (nx + 19) from (by rw [show (20 : Int32) = nI 20 from rfl, nI_add, show nx + 20 = (nx + 19) + 1 from rfl, nI_pred]), show (20 : Int32) = nI 20 from rfl, pk_rem (by omega) (by omega) (by omega)]
    refine Rn.cput (pc' := 35) rfl rfl rfl rfl rfl (by decide) rfl ?_
    refine Rn.step (pc' := 36) rfl rfl ?_
    refine Rn.getf (pc' := 39) rfl rfl rfl rfl rfl ?_
    refine Rn.step (pc' := 40) rfl rfl ?_
    refine Rn.getf (pc' := 43) rfl rfl rfl rfl rfl ?_
    refine Rn.iconst (v := 33) (pc' := 45) rfl (by decide) rfl ?_
    refine Rn.imul (pc' := 46) rfl rfl ?_
    refine Rn.step (pc' := 47) rfl rfl ?_
    refine Rn.getf (pc' := 50) rfl rfl rfl rfl rfl ?_
    refine Rn.iconst (v := 0) (pc' := 51) rfl (by decide) rfl ?_
    refine Rn.iconst (v := 33) (pc' := 53) rfl (by decide) rfl ?_
    refine Rn.ccopy (a0 := 11) (a := 9) (sp := 33 * ((nx + 19) % 20)) (dp := 0) (n := 33) (pc' := 56) rfl (by omega) rfl rfl (by show nI ((nx + 19) % 20) * 33 = _; rw [Int32.mul_comm]; simp only [nI_lit, pk_mul]) rfl rfl (by omega) (Nat.zero_le 8) rfl ?_
    refine Rn.iconst (v := 1) (pc' := 57) rfl (by decide) rfl ?_
    refine Rn.iret rfl (by decide) (⟨fun z => absurd z hn0, fun _ => ⟨rfl, _, _, (nx + 19) % 20, rfl, fun k hk => by rw [up_ne _ _ hk, up_ne _ _ hk], fun k hk => up_ne I _ hk, ?_, rfl, Nat.mod_lt _ (by omega), ?_, by omega, fun i hi => ?_⟩⟩)
    · rw [va_up_self]
      have := h5 (n - 1) (by omega)
      rw [show (nx + 20 - n + (n - 1)) % 20 = (nx + 19) % 20 by omega] at this
      refine this.ext hB (fun j hj => ?_)
      rw [pk_cpy_in (by omega) (by omega)]
      rfl
    · show F 10 2 - 1 = nI (n - 1)
      rw [h3]
      exact nI_sub (b := 1) (by omega) (by omega)
    · rw [up_ne I _ (show 11 ≠ 9 by decide)]
      have := h5 i (by omega)
      rw [show (nx + 20 - n + i) % 20 = ((nx + 19) % 20 + 20 - (n - 1) + i) % 20 by omega] at this
      exact this
  · refine Rn.iconst (v := 0) (pc' := 8) rfl (by decide) rfl ?_
    exact Rn.iret rfl (by decide) (⟨fun _ => ⟨rfl, rfl⟩, fun z => absurd ((nI_eq (b := 0) (by omega) (by omega)).mp (h3.symm.trans h4x)) z⟩)
theorem OB.k {P Bn Fn Wn K rn : Nat} {fo : Int32} {rl : xRl} {s : Nat → Int32} {F I F1 I1 : Nat → Nat → Int32} {R : Nat → Nat → Option Nat} {m0 : xM} (h : OB P Bn Fn Wn K rn fo rl s F I R m0) (hF : kF F F1) (hI : kI I I1) : OB P Bn Fn Wn K rn fo rl s F1 I1 R m0 := by
  have e17 := hF 17 (by omega)
  have e12 := hF 12 (by omega)
  have e0 := hF 0 (by omega)
  refine ⟨h.li, ?_, h.wx, ?_, ?_, ?_, h.r6, ?_, h.fi, h.ru, h.db⟩
  · unfold LR
    rw [e17, hI 18 (by omega), hI 19 (by omega), hI 20 (by omega), hI 21 (by omega), hI 22 (by omega)]
    exact h.lr
  · rw [hI 9 (by omega)]; exact h.wr
  · rw [e12, hI 13 (by omega)]; exact h.pr
  · rw [e0]; exact h.rc
  · rw [e0]; exact h.fo
/-- what acts leave as it was -/
def aF (F F1 : Nat → Nat → Int32) : Prop := ∀ k, k = 0 ∨ k = 1 ∨ k = 12 ∨ k = 17 → F1 k = F k
def aI (I I1 : Nat → Nat → Int32) : Prop := ∀ k, k = 2 ∨ k = 13 ∨ k = 18 ∨ k = 19 ∨ k = 20 ∨ k = 21 ∨ k = 22 → I1 k = I k
def AC (m0 : xM) (F I : Nat → Nat → Int32) (R : Nat → Nat → Option Nat) (Bn n : Nat) (Hs : Nat → Nat → Int32) (s t : Nat → Int32) (m : xM) : Prop := ∃ F1 I1 L1 H1 nx1, m = CC m0 F1 I1 L1 R H1 ∧ aF F F1 ∧ aI I I1 ∧ WR True Bn t (I1 9) ∧ PA (kN n) nx1 (kH n Hs s) Bn (F1 10) (I1 11)
theorem WR.off {gg : Prop} {Bn k : Nat} {s w : Nat → Int32} (h : WR gg Bn s w) (hB : Bn ≤ 6) (hk : k < 2) (p : Int32) : WR gg Bn (upd (upd s (46 + 3 * k) (-1)) (46 + 3 * k + 1) p) (upd (upd w (24 + k) (-1)) (26 + k) p) := by
  refine ⟨fun c hc => ?_, fun c hc => ?_, fun c hc => ?_, fun c hc => ?_, fun c hc => ?_, fun c hc hl => ?_, fun c hc => ?_, ?_, ?_, fun hg => ?_, fun c h1 h2 => ?_⟩
  · rw [upd_n _ _ (by omega), upd_n _ _ (by omega), upd_n _ _ (by omega), upd_n _ _ (by omega)]; exact h.pl c hc
  · rw [upd_n _ _ (by omega), upd_n _ _ (by omega), upd_n _ _ (by omega), upd_n _ _ (by omega)]; exact h.ch c hc
  · rw [upd_n _ _ (by omega), upd_n _ _ (by omega), upd_n _ _ (by omega), upd_n _ _ (by omega)]; exact h.fz c hc
  · rw [upd_n _ _ (by omega), upd_n _ _ (by omega), upd_n _ _ (by omega), upd_n _ _ (by omega)]; exact h.ea c hc
  · rw [upd_n _ _ (by omega), upd_n (upd s (46 + 3 * k) (-1)) _ (by omega)]
    by_cases e : c = k
    · subst e
      rw [upd_s, upd_s]
    · rw [upd_n _ _ (by omega), upd_n _ _ (by omega)]
      exact h.wr c hc
  · by_cases e : c = k
    · subst e
      rw [upd_s, upd_s]
    · rw [upd_n _ _ (by omega), upd_n _ _ (by omega)] at hl
      rw [upd_n _ _ (by omega), upd_n _ _ (by omega), upd_n _ _ (by omega), upd_n _ _ (by omega)]
      exact h.li c hc hl
  · rw [upd_n _ _ (by omega), upd_n _ _ (by omega), upd_n _ _ (by omega), upd_n _ _ (by omega)]; exact h.wo c hc
  · rw [upd_n _ _ (by omega), upd_n _ _ (by omega), upd_n _ _ (by omega), upd_n _ _ (by omega)]; exact h.h
  · rw [upd_n _ _ (by omega), upd_n _ _ (by omega), upd_n _ _ (by omega), upd_n _ _ (by omega)]; exact h.d
  · rw [upd_n _ _ (by omega), upd_n _ _ (by omega), upd_n _ _ (by omega), upd_n _ _ (by omega)]; exact h.sp hg
  · rw [upd_n _ _ (by omega), upd_n _ _ (by omega), upd_n _ _ (by omega), upd_n _ _ (by omega)]; exact h.z c h1 h2
set_option maxHeartbeats 4000000 in
theorem c_O_hour {d n nx : Nat} {Hs : Nat → Nat → Int32} {P Bn Fn Wn K rn : Nat} {fo : Int32} {rl : xRl} (hd : 8 ≤ d) (ob : OB P Bn Fn Wn K rn fo rl s F I R m0) (hpa : PA n nx Hs Bn (F 10) (I 11))  : Cl d j_O_hour [.ref 0] (CC m0 F I L R H) (fun r m2 => (gHr s → r = some (.int (-1)) ∧ QG m0 F I R m2) ∧ (¬ gHr s → r = some (.int (hP (fo, rl, -1, 0, Bn, Fn, Wn) s)) ∧ AC m0 F I R Bn n Hs s (hS (fo, rl, -1, 0, Bn, Fn, Wn) s) m2)) := by
  have hb6 := ob.li.b6
  show Rn d j_O_hour 0 _ _ _ _
  obtain ⟨DD, hDD1, hDD2⟩ := ob.db
  refine Rn.step (pc' := 1) rfl rfl ?_
  refine Rn.getf (pc' := 4) rfl rfl rfl rfl rfl ?_
  refine Rn.getf (pc' := 7) rfl rfl rfl rfl rfl ?_
  refine Rn.iconst (v := 30) (pc' := 9) rfl (by decide) rfl ?_
  refine Rn.cald (k := 30) (pc' := 10) rfl rfl (by simp only [nI_lit, nI_add, pk_mul, Nat.zero_add]) (by omega) (ob.wr.h) (by decide) rfl ?_
  refine Rn.iconst (v := 23) (pc' := 12) rfl (by decide) rfl ?_
  refine Rn.icmp_lt (pc1 := 35) (pc2 := 15) rfl rfl rfl (fun h12 => ?_) (fun h12 => ?_)
  · refine Rn.iconst (v := 0) (pc' := 36) rfl (by decide) rfl ?_
    refine Rn.step (pc' := 37) rfl rfl ?_
    refine Rn.step (pc' := 38) rfl rfl ?_
    refine Rn.vi (pc' := 41) rfl (by decide) (by omega) rfl rfl rfl (c_O_hasLane ob.lr.p) ?_
    refine Rn.ifp_eq (pc1 := 48) (pc2 := 44) rfl rfl rfl (fun h41 => ?_) (fun h41 => ?_)
    · refine Rn.iconst (v := (-1)) (pc' := 49) rfl (by decide) rfl ?_
      exact Rn.iret rfl (rfl) (⟨fun _ => ⟨rfl, QG.rfl _ _ _ _ _ _⟩, fun hg => absurd (Or.inl h41) hg⟩)
    · refine Rn.step (pc' := 45) rfl rfl ?_
      refine Rn.ifc_eq (pc1 := 50) (pc2 := 48) rfl rfl rfl (fun h45 => ?_) (fun h45 => absurd (rfl) h45)
      refine Rn.step (pc' := 51) rfl rfl ?_
      refine Rn.getf (pc' := 54) rfl rfl rfl rfl rfl ?_
      refine Rn.step (pc' := 55) rfl rfl ?_
      refine Rn.getf (pc' := 58) rfl rfl rfl rfl rfl ?_
      refine Rn.callV (pc' := 61) rfl (by decide) (by omega) rfl rfl rfl (c_P_keep (s := s) (n := n) (nx := nx) (Bn := Bn) (Hs := Hs) (by omega) hb6 ob.wr hpa) (fun r_ m_ hc_ => ?_)
      obtain ⟨rfl, F1, I1, nx1, rfl, kf, ki, pa1⟩ := hc_
      have w9 : I1 9 = I 9 := ki 9 (by omega)
      refine Rn.step (pc' := 62) rfl rfl ?_
      refine Rn.callV (pc' := 65) rfl (by decide) (by omega) rfl rfl rfl (c_O_ready (ob.k kf ki)) (fun r_ m_ hc_ => ?_)
      obtain ⟨rfl, H1, rfl, hH⟩ := hc_
      refine Rn.step (pc' := 66) rfl rfl ?_
      refine Rn.getf (pc' := 69) rfl rfl rfl rfl rfl ?_
      refine Rn.iconst (v := 0) (pc' := 70) rfl (by decide) rfl ?_
      rw [show CC m0 (rdF F1) I1 L R H1 = CWm m0 (rdF F1) I1 L R H1 8 (I1 9) from CW_id.symm]
      refine Rn.callV (pc' := 73) rfl (by decide) (by omega) rfl rfl rfl (c_H_pass (E := (fo, rl, -1, 0, Bn, Fn, Wn)) (o := 8) (w := I1 9) (gg := True) (by unfold isW; omega) ((ob.k kf ki).hb h41 hH) (ob.k kf ki).wr ⟨DD, by omega, hDD2⟩ (by omega)) (fun r_ m_ hc_ => ?_)
      obtain ⟨rfl, L2, w2, rfl, hr2⟩ := hc_
      refine Rn.iret rfl (rfl) (⟨fun hg => absurd hg (fun z => z.elim (fun c => c h41) (fun c => by
          have := c.2
          rw [hDD2] at this
          exact absurd ((nI_eq (a := DD) (b := 999) (by omega) (by omega)).mp this) (by omega))), fun _ => ⟨rfl, _, _, L2, H1, nx1, rfl, fun k hk => ?_, fun k hk => (up_ne I1 _ (by omega)).trans (ki k (by omega)), ?_, ?_⟩⟩)
      · rw [fzF_n _ _ (by omega), show rdF F1 k = F1 k from up_ne F1 _ (by omega)]
        exact kf k (by omega)
      · exact hr2
      · exact pa1
  · refine Rn.step (pc' := 16) rfl rfl ?_
    refine Rn.getf (pc' := 19) rfl rfl rfl rfl rfl ?_
    refine Rn.getf (pc' := 22) rfl rfl rfl rfl rfl ?_
    refine Rn.iconst (v := 31) (pc' := 24) rfl (by decide) rfl ?_
    refine Rn.cald (k := 31) (pc' := 25) rfl rfl (by simp only [nI_lit, nI_add, pk_mul, Nat.zero_add]) (by omega) (ob.wr.d) (by decide) rfl ?_
    refine Rn.iconst (v := 999) (pc' := 28) rfl (by decide) rfl ?_
    refine Rn.icmp_lt (pc1 := 35) (pc2 := 31) rfl rfl rfl (fun h28 => ?_) (fun h28 => absurd (by rw [hDD2]; exact (nI_ltI (a := DD) (b := 999) (by omega) (by omega)).mpr (by omega)) h28)
    refine Rn.iconst (v := 0) (pc' := 36) rfl (by decide) rfl ?_
    refine Rn.step (pc' := 37) rfl rfl ?_
    refine Rn.step (pc' := 38) rfl rfl ?_
    refine Rn.vi (pc' := 41) rfl (by decide) (by omega) rfl rfl rfl (c_O_hasLane ob.lr.p) ?_
    refine Rn.ifp_eq (pc1 := 48) (pc2 := 44) rfl rfl rfl (fun h41 => ?_) (fun h41 => ?_)
    · refine Rn.iconst (v := (-1)) (pc' := 49) rfl (by decide) rfl ?_
      exact Rn.iret rfl (rfl) (⟨fun _ => ⟨rfl, QG.rfl _ _ _ _ _ _⟩, fun hg => absurd (Or.inl h41) hg⟩)
    · refine Rn.step (pc' := 45) rfl rfl ?_
      refine Rn.ifc_eq (pc1 := 50) (pc2 := 48) rfl rfl rfl (fun h45 => ?_) (fun h45 => absurd (rfl) h45)
      refine Rn.step (pc' := 51) rfl rfl ?_
      refine Rn.getf (pc' := 54) rfl rfl rfl rfl rfl ?_
      refine Rn.step (pc' := 55) rfl rfl ?_
      refine Rn.getf (pc' := 58) rfl rfl rfl rfl rfl ?_
      refine Rn.callV (pc' := 61) rfl (by decide) (by omega) rfl rfl rfl (c_P_keep (s := s) (n := n) (nx := nx) (Bn := Bn) (Hs := Hs) (by omega) hb6 ob.wr hpa) (fun r_ m_ hc_ => ?_)
      obtain ⟨rfl, F1, I1, nx1, rfl, kf, ki, pa1⟩ := hc_
      have w9 : I1 9 = I 9 := ki 9 (by omega)
      refine Rn.step (pc' := 62) rfl rfl ?_
      refine Rn.callV (pc' := 65) rfl (by decide) (by omega) rfl rfl rfl (c_O_ready (ob.k kf ki)) (fun r_ m_ hc_ => ?_)
      obtain ⟨rfl, H1, rfl, hH⟩ := hc_
      refine Rn.step (pc' := 66) rfl rfl ?_
      refine Rn.getf (pc' := 69) rfl rfl rfl rfl rfl ?_
      refine Rn.iconst (v := 0) (pc' := 70) rfl (by decide) rfl ?_
      rw [show CC m0 (rdF F1) I1 L R H1 = CWm m0 (rdF F1) I1 L R H1 8 (I1 9) from CW_id.symm]
      refine Rn.callV (pc' := 73) rfl (by decide) (by omega) rfl rfl rfl (c_H_pass (E := (fo, rl, -1, 0, Bn, Fn, Wn)) (o := 8) (w := I1 9) (gg := True) (by unfold isW; omega) ((ob.k kf ki).hb h41 hH) (ob.k kf ki).wr ⟨DD, by omega, hDD2⟩ (by omega)) (fun r_ m_ hc_ => ?_)
      obtain ⟨rfl, L2, w2, rfl, hr2⟩ := hc_
      refine Rn.iret rfl (rfl) (⟨fun hg => absurd hg (fun z => z.elim (fun c => c h41) (fun c => by
          have := c.2
          rw [hDD2] at this
          exact absurd ((nI_eq (a := DD) (b := 999) (by omega) (by omega)).mp this) (by omega))), fun _ => ⟨rfl, _, _, L2, H1, nx1, rfl, fun k hk => ?_, fun k hk => (up_ne I1 _ (by omega)).trans (ki k (by omega)), ?_, ?_⟩⟩)
      · rw [fzF_n _ _ (by omega), show rdF F1 k = F1 k from up_ne F1 _ (by omega)]
        exact kf k (by omega)
      · exact hr2
      · exact pa1
set_option maxHeartbeats 4000000 in
theorem c_O_wear {d n nx : Nat} {Hs : Nat → Nat → Int32} {P Bn Fn Wn K rn : Nat} {fo : Int32} {rl : xRl} (hd : 6 ≤ d) (ob : OB P Bn Fn Wn K rn fo rl s F I R m0) (hpa : PA n nx Hs Bn (F 10) (I 11)) (x y : Int32) : Cl d j_O_wear [.ref 0, .int x, .int y] (CC m0 F I L R H) (fun r m2 => (gWr s x y → r = some (.int (-2)) ∧ QG m0 F I R m2) ∧ (¬ gWr s x y → r = some (.int (s (46 + 3 * x.toNatClampNeg))) ∧ AC m0 F I R Bn n Hs s (upd s (46 + 3 * x.toNatClampNeg) y) m2)) := by
  have hb6 := ob.li.b6
  have hlane : ¬ gWr s x y → 0 < s 0 := fun hg => (ob.li.bro (Decidable.byContradiction (fun z => hg (Or.inr (Or.inl z))))).1
  have CW8 : CWm m0 F I L R H 8 (I 9) = CC m0 F I L R H := CW_id
  show Rn d j_O_wear 0 _ _ _ _
  refine Rn.step (pc' := 1) rfl rfl ?_
  refine Rn.step (pc' := 2) rfl rfl ?_
  refine Rn.vi (pc' := 5) rfl (by decide) (by omega) rfl rfl rfl (c_O_isBoot (by omega) ob.lr.p x) ?_
  refine Rn.ifp_eq (pc1 := 27) (pc2 := 8) rfl rfl rfl (fun h5 => ?_) (fun h5 => ?_)
  · refine Rn.iconst (v := (-2)) (pc' := 29) rfl (by decide) rfl ?_
    exact Rn.iret rfl (rfl) (⟨fun _ => ⟨rfl, QG.rfl _ _ _ _ _ _⟩, fun hg => absurd (Classical.byContradiction (fun hg2 => h5 ⟨hlane hg2, Classical.byContradiction (fun z => hg2 (Or.inl z))⟩)) hg⟩)
  · refine Rn.step (pc' := 9) rfl rfl ?_
    refine Rn.step (pc' := 10) rfl rfl ?_
    refine Rn.vi (pc' := 13) rfl (by decide) (by omega) rfl rfl rfl (c_O_isBrother ob.lr.b y) ?_
    refine Rn.ifp_eq (pc1 := 27) (pc2 := 16) rfl rfl rfl (fun h13 => ?_) (fun h13 => ?_)
    · refine Rn.iconst (v := (-2)) (pc' := 29) rfl (by decide) rfl ?_
      exact Rn.iret rfl (rfl) (⟨fun _ => ⟨rfl, QG.rfl _ _ _ _ _ _⟩, fun hg => absurd (Or.inr (Or.inl h13)) hg⟩)
    · obtain ⟨h0, hl, hw, b, hb, rfl⟩ := ob.li.bro h13
      have eby : (nI b).toNatClampNeg = b := nI_clamp (by omega)
      obtain ⟨k, hk, rfl⟩ := x01 h5.2
      have ek : (nI k).toNatClampNeg = k := nI_clamp (by omega)
      refine Rn.step (pc' := 17) rfl rfl ?_
      refine Rn.getf (pc' := 20) rfl rfl rfl rfl rfl ?_
      refine Rn.step (pc' := 21) rfl rfl ?_
      refine Rn.vi (pc' := 24) rfl (by decide) (by omega) rfl rfl rfl (c_C_fits ob.lr hb6 hb) ?_
      refine Rn.ifq_ne (pc1 := 30) (pc2 := 27) rfl rfl rfl (fun h24 => ?_) (fun h24 => ?_)
      · refine Rn.step (pc' := 31) rfl rfl ?_
        refine Rn.getf (pc' := 34) rfl rfl rfl rfl rfl ?_
        refine Rn.getf (pc' := 37) rfl rfl rfl rfl rfl ?_
        refine Rn.iconst (v := 24) (pc' := 39) rfl (by decide) rfl ?_
        refine Rn.step (pc' := 40) rfl rfl ?_
        refine Rn.iadd (pc' := 41) rfl rfl ?_
        refine Rn.cald (k := 24 + k) (pc' := 42) rfl rfl (by simp only [nI_lit, nI_add, pk_mul, Nat.zero_add]) (by omega) (ob.wr.wr k hk) (by decide) rfl ?_
        refine Rn.step (pc' := 43) rfl rfl ?_
        refine Rn.step (pc' := 44) rfl rfl ?_
        refine Rn.step (pc' := 45) rfl rfl ?_
        refine Rn.icmp_eq (pc1 := 70) (pc2 := 48) rfl rfl rfl (fun h45 => ?_) (fun h45 => ?_)
        · refine Rn.iconst (v := (-2)) (pc' := 72) rfl (by decide) rfl ?_
          exact Rn.iret rfl (rfl) (⟨fun _ => ⟨rfl, QG.rfl _ _ _ _ _ _⟩, fun hg => absurd (Or.inr (Or.inr (fun z => z.1 (by rw [ek, eby]; exact h45)))) hg⟩)
        · refine Rn.step (pc' := 49) rfl rfl ?_
          refine Rn.getf (pc' := 52) rfl rfl rfl rfl rfl ?_
          refine Rn.step (pc' := 53) rfl rfl ?_
          refine Rn.vi (pc' := 56) rfl (by decide) (by omega) rfl rfl rfl (CW8 ▸ c_W_placeOfBoot (o := 8) (w := I 9) (gg := True) (by unfold isW; omega) ob.wr hb6 hw.wr hk) ?_
          refine Rn.step (pc' := 57) rfl rfl ?_
          refine Rn.getf (pc' := 60) rfl rfl rfl rfl rfl ?_
          refine Rn.getf (pc' := 63) rfl rfl rfl rfl rfl ?_
          refine Rn.iconst (v := 0) (pc' := 64) rfl (by decide) rfl ?_
          refine Rn.step (pc' := 65) rfl rfl ?_
          refine Rn.iadd (pc' := 66) rfl rfl ?_
          refine Rn.cald (k := b) (pc' := 67) rfl rfl (by simp only [nI_lit, nI_add, pk_mul, Nat.zero_add]) (by omega) (ob.wr.pl b hb) (by decide) rfl ?_
          refine Rn.icmp_eq (pc1 := 73) (pc2 := 70) rfl rfl rfl (fun h67 => ?_) (fun h67 => ?_)
          · refine Rn.step (pc' := 74) rfl rfl ?_
            refine Rn.getf (pc' := 77) rfl rfl rfl rfl rfl ?_
            refine Rn.step (pc' := 78) rfl rfl ?_
            refine Rn.getf (pc' := 81) rfl rfl rfl rfl rfl ?_
            refine Rn.callV (pc' := 84) rfl (by decide) (by omega) rfl rfl rfl (c_P_keep (s := s) (n := n) (nx := nx) (Bn := Bn) (Hs := Hs) (by omega) hb6 ob.wr hpa) (fun r_ m_ hc_ => ?_)
            obtain ⟨rfl, F1, I1, nx1, rfl, kf, ki, pa1⟩ := hc_
            have w9 : I1 9 = I 9 := ki 9 (by omega)
            refine Rn.step (pc' := 85) rfl rfl ?_
            refine Rn.getf (pc' := 88) rfl rfl rfl rfl rfl ?_
            refine Rn.getf (pc' := 91) rfl rfl rfl rfl rfl ?_
            refine Rn.iconst (v := 24) (pc' := 93) rfl (by decide) rfl ?_
            refine Rn.step (pc' := 94) rfl rfl ?_
            refine Rn.iadd (pc' := 95) rfl rfl ?_
            refine Rn.step (pc' := 96) rfl rfl ?_
            refine Rn.cast (k := 24 + k) (pc' := 97) rfl rfl (by simp only [nI_lit, nI_add, pk_mul, Nat.zero_add]) (by omega) (by decide) rfl ?_
            refine Rn.step (pc' := 98) rfl rfl ?_
            exact Rn.iret rfl (rfl) (⟨fun hg => absurd hg (fun z => z.elim (fun c => c h5.2) (fun z => z.elim (fun c => c h13) (fun c => c (by rw [ek, eby]; exact ⟨h45, h24, h67⟩)))), fun _ => ⟨by rw [ek], F1, _, L, H, nx1, rfl, fun k hk => kf k (by omega), fun k hk => (up_ne I1 _ (by omega)).trans (ki k (by omega)), by rw [va_up_self, w9, ek]; exact ob.wr.uWr hb6 hk _ (nI_pos (by omega)), pa1⟩⟩)
          · refine Rn.iconst (v := (-2)) (pc' := 72) rfl (by decide) rfl ?_
            exact Rn.iret rfl (rfl) (⟨fun _ => ⟨rfl, QG.rfl _ _ _ _ _ _⟩, fun hg => absurd (Or.inr (Or.inr (fun z => h67 (by have := z.2.2; rw [ek, eby] at this; exact this)))) hg⟩)
      · refine Rn.iconst (v := (-2)) (pc' := 29) rfl (by decide) rfl ?_
        exact Rn.iret rfl (rfl) (⟨fun _ => ⟨rfl, QG.rfl _ _ _ _ _ _⟩, fun hg => absurd (Or.inr (Or.inr (fun z => z.2.1 (by rw [eby]; exact h24)))) hg⟩)
set_option maxHeartbeats 4000000 in
theorem c_O_off {d n nx : Nat} {Hs : Nat → Nat → Int32} {P Bn Fn Wn K rn : Nat} {fo : Int32} {rl : xRl} (hd : 6 ≤ d) (ob : OB P Bn Fn Wn K rn fo rl s F I R m0) (hpa : PA n nx Hs Bn (F 10) (I 11)) (x : Int32) : Cl d j_O_off [.ref 0, .int x] (CC m0 F I L R H) (fun r m2 => (gOf s x → r = some (.int (-1)) ∧ QG m0 F I R m2) ∧ (¬ gOf s x → r = some (.int (mPl s x.toNatClampNeg)) ∧ AC m0 F I R Bn n Hs s (offS s x.toNatClampNeg) m2)) := by
  have hb6 := ob.li.b6
  show Rn d j_O_off 0 _ _ _ _
  refine Rn.step (pc' := 1) rfl rfl ?_
  refine Rn.step (pc' := 2) rfl rfl ?_
  refine Rn.vi (pc' := 5) rfl (by decide) (by omega) rfl rfl rfl (c_O_isBoot (by omega) ob.lr.p x) ?_
  refine Rn.ifp_eq (pc1 := 24) (pc2 := 8) rfl rfl rfl (fun h5 => ?_) (fun h5 => ?_)
  · refine Rn.iconst (v := (-1)) (pc' := 25) rfl (by decide) rfl ?_
    exact Rn.iret rfl (rfl) (⟨fun _ => ⟨rfl, QG.rfl _ _ _ _ _ _⟩, fun hg => absurd (Classical.byContradiction (fun hg2 => h5 ⟨Classical.byContradiction (fun z => hg2 (Or.inl z)), Classical.byContradiction (fun z => hg2 (Or.inr (Or.inl z)))⟩)) hg⟩)
  · obtain ⟨hl, hw⟩ := ob.li.lane h5.1
    obtain ⟨k, hk, rfl⟩ := x01 h5.2
    have ek : (nI k).toNatClampNeg = k := nI_clamp (by omega)
    refine Rn.step (pc' := 9) rfl rfl ?_
    refine Rn.getf (pc' := 12) rfl rfl rfl rfl rfl ?_
    refine Rn.getf (pc' := 15) rfl rfl rfl rfl rfl ?_
    refine Rn.iconst (v := 24) (pc' := 17) rfl (by decide) rfl ?_
    refine Rn.step (pc' := 18) rfl rfl ?_
    refine Rn.iadd (pc' := 19) rfl rfl ?_
    refine Rn.cald (k := 24 + k) (pc' := 20) rfl rfl (by simp only [nI_lit, nI_add, pk_mul, Nat.zero_add]) (by omega) (ob.wr.wr k hk) (by decide) rfl ?_
    refine Rn.iconst (v := (-1)) (pc' := 21) rfl (by decide) rfl ?_
    refine Rn.icmp_ne (pc1 := 26) (pc2 := 24) rfl rfl rfl (fun h21 => ?_) (fun h21 => ?_)
    · refine Rn.step (pc' := 27) rfl rfl ?_
      refine Rn.getf (pc' := 30) rfl rfl rfl rfl rfl ?_
      refine Rn.step (pc' := 31) rfl rfl ?_
      refine Rn.getf (pc' := 34) rfl rfl rfl rfl rfl ?_
      refine Rn.callV (pc' := 37) rfl (by decide) (by omega) rfl rfl rfl (c_P_keep (s := s) (n := n) (nx := nx) (Bn := Bn) (Hs := Hs) (by omega) hb6 ob.wr hpa) (fun r_ m_ hc_ => ?_)
      obtain ⟨rfl, F1, I1, nx1, rfl, kf, ki, pa1⟩ := hc_
      have w9 : I1 9 = I 9 := ki 9 (by omega)
      have CW8 : CWm m0 F1 I1 L R H 8 (I1 9) = CC m0 F1 I1 L R H := CW_id
      refine Rn.step (pc' := 38) rfl rfl ?_
      refine Rn.getf (pc' := 41) rfl rfl rfl rfl rfl ?_
      refine Rn.step (pc' := 42) rfl rfl ?_
      refine Rn.vi (pc' := 45) rfl (by decide) (by omega) rfl rfl rfl (CW8 ▸ c_W_placeOfBoot (o := 8) (w := I1 9) (gg := True) (by unfold isW; omega) (ob.k kf ki).wr hb6 hw.wr hk) ?_
      refine Rn.step (pc' := 46) rfl rfl ?_
      refine Rn.step (pc' := 47) rfl rfl ?_
      refine Rn.getf (pc' := 50) rfl rfl rfl rfl rfl ?_
      refine Rn.getf (pc' := 53) rfl rfl rfl rfl rfl ?_
      refine Rn.iconst (v := 24) (pc' := 55) rfl (by decide) rfl ?_
      refine Rn.step (pc' := 56) rfl rfl ?_
      refine Rn.iadd (pc' := 57) rfl rfl ?_
      refine Rn.iconst (v := (-1)) (pc' := 58) rfl (by decide) rfl ?_
      refine Rn.cast (k := 24 + k) (pc' := 59) rfl rfl (by simp only [nI_lit, nI_add, pk_mul, Nat.zero_add]) (by omega) (by decide) rfl ?_
      refine Rn.step (pc' := 60) rfl rfl ?_
      refine Rn.getf (pc' := 63) rfl rfl rfl rfl rfl ?_
      refine Rn.getf (pc' := 66) rfl rfl rfl rfl rfl ?_
      refine Rn.iconst (v := 26) (pc' := 68) rfl (by decide) rfl ?_
      refine Rn.step (pc' := 69) rfl rfl ?_
      refine Rn.iadd (pc' := 70) rfl rfl ?_
      refine Rn.step (pc' := 71) rfl rfl ?_
      refine Rn.cast (k := 26 + k) (pc' := 72) rfl rfl (by simp only [nI_lit, nI_add, pk_mul, Nat.zero_add]) (by omega) (by decide) rfl ?_
      refine Rn.step (pc' := 73) rfl rfl ?_
      exact Rn.iret rfl (rfl) (⟨fun hg => absurd hg (fun z => z.elim (fun c => c h5.1) (fun z => z.elim (fun c => c h5.2) (fun c => by
          rw [ek] at c
          rcases hw.wr k hk with e | ⟨b, e1, e2⟩
          · exact h21 e
          · rw [e2] at c
            exact nI_pos (show b < 2 ^ 31 by omega) c))), fun _ => ⟨by rw [ek], F1, _, L, H, nx1, rfl, fun k hk => kf k (by omega), fun k hk => (up_ne _ _ (by omega)).trans ((up_ne I1 _ (by omega)).trans (ki k (by omega))), by
          rw [va_up_self, va_up_self, w9, ek]
          unfold offS
          exact ob.wr.off hb6 hk _, by rw [up_ne _ _ (show 11 ≠ 9 by decide), up_ne _ _ (show 11 ≠ 9 by decide)]; exact pa1⟩⟩)
    · refine Rn.iconst (v := (-1)) (pc' := 25) rfl (by decide) rfl ?_
      exact Rn.iret rfl (rfl) (⟨fun _ => ⟨rfl, QG.rfl _ _ _ _ _ _⟩, fun hg => absurd (Or.inr (Or.inr (by rw [ek, h21]; exact neg1))) hg⟩)
theorem sub_sub_10 (a b : Int32) : a - b - 10 = a - (b + 10) := by
  rw [Int32.sub_eq_add_neg, Int32.sub_eq_add_neg, Int32.sub_eq_add_neg, Int32.neg_add, Int32.add_assoc, Int32.sub_eq_add_neg]
set_option maxHeartbeats 4000000 in
theorem c_O_cobble {d n nx : Nat} {Hs : Nat → Nat → Int32} {P Bn Fn Wn K rn : Nat} {fo : Int32} {rl : xRl} (hd : 6 ≤ d) (ob : OB P Bn Fn Wn K rn fo rl s F I R m0) (hpa : PA n nx Hs Bn (F 10) (I 11)) (x : Int32) : Cl d j_O_cobble [.ref 0, .int x] (CC m0 F I L R H) (fun r m2 => (gCo s Bn x → r = some (.int (-1)) ∧ QG m0 F I R m2) ∧ (¬ gCo s Bn x → r = some (.int (mEa s Bn - (s 7 + 10))) ∧ AC m0 F I R Bn n Hs s (coS s x.toNatClampNeg) m2)) := by
  have hb6 := ob.li.b6
  have CW8 : CWm m0 F I L R H 8 (I 9) = CC m0 F I L R H := CW_id
  show Rn d j_O_cobble 0 _ _ _ _
  refine Rn.step (pc' := 1) rfl rfl ?_
  refine Rn.getf (pc' := 4) rfl rfl rfl rfl rfl ?_
  refine Rn.vi (pc' := 7) rfl (by decide) (by omega) rfl rfl rfl (CW8 ▸ c_W_allEarned (o := 8) (w := I 9) (gg := True) (by omega) (by unfold isW; omega) ob.wr hb6) ?_
  refine Rn.step (pc' := 8) rfl rfl ?_
  refine Rn.getf (pc' := 11) rfl rfl rfl rfl rfl ?_
  refine Rn.getf (pc' := 14) rfl rfl rfl rfl rfl ?_
  refine Rn.iconst (v := 32) (pc' := 16) rfl (by decide) rfl ?_
  refine Rn.cald (k := 32) (pc' := 17) rfl rfl (by simp only [nI_lit, nI_add, pk_mul, Nat.zero_add]) (by omega) (ob.wr.sp trivial) (by decide) rfl ?_
  refine Rn.isub (pc' := 18) rfl rfl ?_
  refine Rn.step (pc' := 19) rfl rfl ?_
  refine Rn.step (pc' := 20) rfl rfl ?_
  refine Rn.step (pc' := 21) rfl rfl ?_
  refine Rn.vi (pc' := 24) rfl (by decide) (by omega) rfl rfl rfl (c_O_isBoot (by omega) ob.lr.p x) ?_
  refine Rn.ifp_eq (pc1 := 48) (pc2 := 27) rfl rfl rfl (fun h24 => ?_) (fun h24 => ?_)
  · refine Rn.iconst (v := (-1)) (pc' := 49) rfl (by decide) rfl ?_
    exact Rn.iret rfl (rfl) (⟨fun _ => ⟨rfl, QG.rfl _ _ _ _ _ _⟩, fun hg => absurd (Classical.byContradiction (fun hg2 => h24 ⟨Classical.byContradiction (fun z => hg2 (Or.inl z)), Classical.byContradiction (fun z => hg2 (Or.inr (Or.inl z)))⟩)) hg⟩)
  · obtain ⟨k, hk, rfl⟩ := x01 h24.2
    have ek : (nI k).toNatClampNeg = k := nI_clamp (by omega)
    refine Rn.step (pc' := 28) rfl rfl ?_
    refine Rn.getf (pc' := 31) rfl rfl rfl rfl rfl ?_
    refine Rn.getf (pc' := 34) rfl rfl rfl rfl rfl ?_
    refine Rn.iconst (v := 28) (pc' := 36) rfl (by decide) rfl ?_
    refine Rn.step (pc' := 37) rfl rfl ?_
    refine Rn.iadd (pc' := 38) rfl rfl ?_
    refine Rn.cald (k := 28 + k) (pc' := 39) rfl rfl (by simp only [nI_lit, nI_add, pk_mul, Nat.zero_add]) (by omega) (ob.wr.wo k hk) (by decide) rfl ?_
    refine Rn.ifc_eq (pc1 := 48) (pc2 := 42) rfl rfl rfl (fun h39 => ?_) (fun h39 => ?_)
    · refine Rn.iconst (v := (-1)) (pc' := 49) rfl (by decide) rfl ?_
      exact Rn.iret rfl (rfl) (⟨fun _ => ⟨rfl, QG.rfl _ _ _ _ _ _⟩, fun hg => absurd (Or.inr (Or.inr (Or.inl (by rw [ek]; exact h39)))) hg⟩)
    · refine Rn.step (pc' := 43) rfl rfl ?_
      refine Rn.iconst (v := 10) (pc' := 45) rfl (by decide) rfl ?_
      refine Rn.icmp_ge (pc1 := 50) (pc2 := 48) rfl rfl rfl (fun h45 => ?_) (fun h45 => ?_)
      · refine Rn.step (pc' := 51) rfl rfl ?_
        refine Rn.getf (pc' := 54) rfl rfl rfl rfl rfl ?_
        refine Rn.step (pc' := 55) rfl rfl ?_
        refine Rn.getf (pc' := 58) rfl rfl rfl rfl rfl ?_
        refine Rn.callV (pc' := 61) rfl (by decide) (by omega) rfl rfl rfl (c_P_keep (s := s) (n := n) (nx := nx) (Bn := Bn) (Hs := Hs) (by omega) hb6 ob.wr hpa) (fun r_ m_ hc_ => ?_)
        obtain ⟨rfl, F1, I1, nx1, rfl, kf, ki, pa1⟩ := hc_
        have w9 : I1 9 = I 9 := ki 9 (by omega)
        refine Rn.step (pc' := 62) rfl rfl ?_
        refine Rn.getf (pc' := 65) rfl rfl rfl rfl rfl ?_
        refine Rn.getf (pc' := 68) rfl rfl rfl rfl rfl ?_
        refine Rn.iconst (v := 28) (pc' := 70) rfl (by decide) rfl ?_
        refine Rn.step (pc' := 71) rfl rfl ?_
        refine Rn.iadd (pc' := 72) rfl rfl ?_
        refine Rn.iconst (v := 0) (pc' := 73) rfl (by decide) rfl ?_
        refine Rn.cast (k := 28 + k) (pc' := 74) rfl rfl (by simp only [nI_lit, nI_add, pk_mul, Nat.zero_add]) (by omega) (by decide) rfl ?_
        refine Rn.step (pc' := 75) rfl rfl ?_
        refine Rn.getf (pc' := 78) rfl rfl rfl rfl rfl ?_
        refine Rn.getf (pc' := 81) rfl rfl rfl rfl rfl ?_
        refine Rn.iconst (v := 32) (pc' := 83) rfl (by decide) rfl ?_
        refine Rn.step (pc' := 84) rfl rfl ?_
        refine Rn.cald (k := 32) (pc' := 85) rfl rfl (by simp only [nI_lit, nI_add, pk_mul, Nat.zero_add]) (by omega) (show va_up I1 9 (upd (I1 9) (28 + k) 0) 9 32 = s 7 from by rw [va_up_self, upd_n _ _ (by omega), w9]; exact ob.wr.sp trivial) (by decide) rfl ?_
        refine Rn.iconst (v := 10) (pc' := 87) rfl (by decide) rfl ?_
        refine Rn.iadd (pc' := 88) rfl rfl ?_
        refine Rn.cast (k := 32) (pc' := 89) rfl rfl (by simp only [nI_lit, nI_add, pk_mul, Nat.zero_add]) (by omega) (by decide) rfl ?_
        refine Rn.step (pc' := 90) rfl rfl ?_
        refine Rn.iconst (v := 10) (pc' := 92) rfl (by decide) rfl ?_
        refine Rn.isub (pc' := 93) rfl rfl ?_
        exact Rn.iret rfl (rfl) (⟨fun hg => absurd hg (fun z => z.elim (fun c => c h24.1) (fun z => z.elim (fun c => c h24.2) (fun z => z.elim (fun c => h39 (by rw [ek] at c; exact c)) (fun c => Int32.not_lt.mpr h45 c)))), fun _ => ⟨by rw [sub_sub_10], F1, _, L, H, nx1, rfl, fun k hk => kf k (by omega), fun k hk => (up_ne _ _ (by omega)).trans ((up_ne I1 _ (by omega)).trans (ki k (by omega))), by
            rw [va_up_self, va_up_self, w9, ek]
            unfold coS
            rw [upd_n s _ (show 7 ≠ 46 + 3 * k + 2 by omega)]
            exact (ob.wr.uWo hb6 hk 0).uSp hb6 (s 7 + 10), by rw [up_ne _ _ (show 11 ≠ 9 by decide), up_ne _ _ (show 11 ≠ 9 by decide)]; exact pa1⟩⟩)
      · refine Rn.iconst (v := (-1)) (pc' := 49) rfl (by decide) rfl ?_
        exact Rn.iret rfl (rfl) (⟨fun _ => ⟨rfl, QG.rfl _ _ _ _ _ _⟩, fun hg => absurd (Or.inr (Or.inr (Or.inr (Int32.not_le.mp h45)))) hg⟩)
theorem c_O_undo {d n nx : Nat} {Hs : Nat → Nat → Int32} {P Bn Fn Wn K rn : Nat} {fo : Int32} {rl : xRl} (hd : 2 ≤ d) (ob : OB P Bn Fn Wn K rn fo rl s F I R m0) (hpa : PA n nx Hs Bn (F 10) (I 11)) : Cl d j_O_undo [.ref 0] (CC m0 F I L R H) (fun r m2 => r = some (.int (uA n)) ∧ ((n = 0 ∧ QG m0 F I R m2) ∨ (n ≠ 0 ∧ ∃ F1 I1 L1 H1 nx1, m2 = CC m0 F1 I1 L1 R H1 ∧ aF F F1 ∧ aI I I1 ∧ WR True Bn (Hs (n - 1)) (I1 9) ∧ PA (n - 1) nx1 Hs Bn (F1 10) (I1 11)))) := by
  have hb6 := ob.li.b6
  show Rn d j_O_undo 0 _ _ _ _
  rcases Nat.eq_zero_or_pos n with hn | hn
  · skip
    refine Rn.step (pc' := 1) rfl rfl ?_
    refine Rn.getf (pc' := 4) rfl rfl rfl rfl rfl ?_
    refine Rn.step (pc' := 5) rfl rfl ?_
    refine Rn.getf (pc' := 8) rfl rfl rfl rfl rfl ?_
    refine Rn.callV (pc' := 11) rfl (by decide) (by omega) rfl rfl rfl (c_P_back (Bn := Bn) (Hs := Hs) (by omega) hb6 hpa) (fun r_ m_ hc_ => ?_)
    obtain ⟨rfl, rfl⟩ := hc_.1 hn
    refine Rn.ifc_eq (pc1 := 24) (pc2 := 14) rfl rfl rfl (fun h11 => ?_) (fun h11 => absurd (rfl) h11)
    refine Rn.iconst (v := (-1)) (pc' := 25) rfl (by decide) rfl ?_
    exact Rn.iret rfl (rfl) (⟨by unfold uA; rw [if_pos hn], Or.inl ⟨hn, QG.rfl _ _ _ _ _ _⟩⟩)
  · have hn0 : n ≠ 0 := by omega
    refine Rn.step (pc' := 1) rfl rfl ?_
    refine Rn.getf (pc' := 4) rfl rfl rfl rfl rfl ?_
    refine Rn.step (pc' := 5) rfl rfl ?_
    refine Rn.getf (pc' := 8) rfl rfl rfl rfl rfl ?_
    refine Rn.callV (pc' := 11) rfl (by decide) (by omega) rfl rfl rfl (c_P_back (Bn := Bn) (Hs := Hs) (by omega) hb6 hpa) (fun r_ m_ hc_ => ?_)
    obtain ⟨rfl, F1, I1, nx1, rfl, kf, ki, wr1, pa1⟩ := hc_.2 hn0
    refine Rn.ifc_eq (pc1 := 24) (pc2 := 14) rfl rfl rfl (fun h11 => absurd h11 (by decide)) (fun h11 => ?_)
    refine Rn.step (pc' := 15) rfl rfl ?_
    refine Rn.getf (pc' := 18) rfl rfl rfl rfl rfl ?_
    refine Rn.getf (pc' := 21) rfl rfl rfl rfl rfl ?_
    refine Rn.step (pc' := 25) rfl rfl ?_
    exact Rn.iret rfl (rfl) (⟨by unfold uA; rw [if_neg hn0, pa1.2.2.1], Or.inr ⟨hn0, F1, I1, L, H, nx1, rfl, fun k hk => kf k (by omega), fun k hk => ki k (by omega), wr1, pa1⟩⟩)
end CQ
