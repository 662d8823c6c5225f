/-! THE MODEL: feet. -/
section MH
variable {m0 : xM} {v : Nat → Int32} {dx : Int64} {A : Nat → Nat → Int32} {LA : Nat → Nat → Int64} {s : Nat → Int32}
/-- as at the beginning, worn by one -/
def bgH (s : Nat → Int32) : Nat → Nat → Int32
  | 0 => upd (upd s 5 0) 6 0
  | k + 1 => upd (gHm (bgH s k) k) (10 + 6 * k + 5) 0
theorem bgH_s (s : Nat → Int32) (k : Nat) : bgH s (k + 1) = upd (gHm (bgH s k) k) (10 + 6 * k + 5) 0 := rfl
def bgS (s : Nat → Int32) (Bn : Nat) (b : Int32) : Nat → Int32 := lnd (upd (upd (bgH s Bn) 48 0) 51 0) b
theorem bgH_fx (s : Nat → Int32) : ∀ k, k ≤ 6 → FX s (bgH s k)
  | 0, _ => (FX.up s _ _ (by unfold fxc; omega)).trans (FX.up _ _ _ (by unfold fxc; omega))
  | k + 1, h => (bgH_fx s k (by omega)).trans ((gHm_fx _ (by omega)).trans (FX.up _ _ _ (by unfold fxc; omega)))
/-- a part of WD: the first k are at home -/
theorem bgH_pl {P Bn Fn Wn : Nat} {s : Nat → Int32} (h : WL P Bn Fn Wn s) : ∀ k, k ≤ Bn → (bgH s k 5 = 0 ∧ ∀ b, b < k → bgH s k (10 + 6 * b) = s (10 + 6 * b + 1) ∧ bgH s k (10 + 6 * b + 3) = 0 ∧ bgH s k (10 + 6 * b + 4) = 0 ∧ bgH s k (10 + 6 * b + 5) = 0)
  | 0, _ => ⟨by rw [bgH, upd_n _ _ (by omega), upd_s], fun b hb => absurd hb (by omega)⟩
  | k + 1, hk => by
    have hb6 := h.b6
    obtain ⟨h5, ih⟩ := bgH_pl h k (by omega)
    have f1 := bgH_fx s k (by omega)
    rw [bgH_s]
    refine ⟨?_, fun b hb => ?_⟩
    · unfold gHm
      rw [upd_n _ _ (by omega), upd_n _ _ (by omega), upd_n _ _ (by omega), upd_n _ _ (by omega)]
      exact h5
    · by_cases e : b = k
      · subst e
        unfold gHm
        refine ⟨?_, ?_, ?_, ?_⟩
        · rw [upd_n _ _ (by omega), upd_n _ _ (by omega), upd_n _ _ (by omega), upd_s]
          exact f1 _ (by unfold fxc; omega)
        · rw [upd_n _ _ (by omega), upd_n _ _ (by omega), upd_s]
        · rw [upd_n _ _ (by omega), upd_s]
        · rw [upd_s]
      · have ih := ih b (by omega)
        unfold gHm
        refine ⟨?_, ?_, ?_, ?_⟩
        · rw [upd_n _ _ (by omega), upd_n _ _ (by omega), upd_n _ _ (by omega), upd_n _ _ (by omega)]
          exact ih.1
        · rw [upd_n _ _ (by omega), upd_n _ _ (by omega), upd_n _ _ (by omega), upd_n _ _ (by omega)]
          exact ih.2.1
        · rw [upd_n _ _ (by omega), upd_n _ _ (by omega), upd_n _ _ (by omega), upd_n _ _ (by omega)]
          exact ih.2.2.1
        · rw [upd_n _ _ (by omega), upd_n _ _ (by omega), upd_n _ _ (by omega), upd_n _ _ (by omega)]
          exact ih.2.2.2
theorem bgH_n (s : Nat → Int32) : ∀ k, k ≤ 6 → ∀ i, (i = 7 ∨ 46 ≤ i) → bgH s k i = s i
  | 0, _, i, hi => by rw [bgH, upd_n _ _ (by omega), upd_n _ _ (by omega)]
  | k + 1, h, i, hi => by
    rw [bgH_s, gHm, upd_n _ _ (by omega), upd_n _ _ (by omega), upd_n _ _ (by omega), upd_n _ _ (by omega)]
    exact bgH_n s k (by omega) i hi
theorem bgH_6 (s : Nat → Int32) : ∀ k, k ≤ 6 → bgH s k 6 = 0
  | 0, _ => by rw [bgH, upd_s]
  | k + 1, h => by
    rw [bgH_s, gHm, upd_n _ _ (by omega), upd_n _ _ (by omega), upd_n _ _ (by omega), upd_n _ _ (by omega)]
    exact bgH_6 s k (by omega)
theorem bgS_w {P Bn Fn Wn : Nat} {s : Nat → Int32} (h : WL P Bn Fn Wn s) (g : WD P Bn s) {b : Int32} (hb : b = -1 ∨ ∃ c, c < Bn ∧ b = nI c) : FX s (bgS s Bn b) ∧ WD P Bn (bgS s Bn b) := by
  have hb6 := h.b6
  refine ⟨(bgH_fx s Bn hb6).trans ((FX.up _ _ _ (by unfold fxc; omega)).trans ((FX.up _ _ _ (by unfold fxc; omega)).trans (lnd_fx _ _))), lnd_wd (WD.up (WD.up ?_ hb6 48 0 (by unfold wdc; omega)) hb6 51 0 (by unfold wdc; omega)) hb6 hb⟩
  obtain ⟨h5, hp⟩ := bgH_pl h Bn (Nat.le_refl _)
  refine ⟨⟨0, by omega, h5⟩, fun c hc => ?_, fun c hc => ⟨0, by omega, (hp c hc).2.1, Or.inl (by omega)⟩, fun c hc => Or.inl (hp c hc).2.2.1, fun k hk => ?_⟩
  · rw [(hp c hc).1]
    exact h.hm c hc
  · rw [bgH_n s Bn hb6 _ (by omega)]
    exact g.wr k hk
theorem l_M_beginsBy {d Bn : Nat} {b : Int32} (hb : s 2 = nI Bn) (hB6 : Bn ≤ 6) (hd : 2 ≤ d) (k : Nat) (hk : k ≤ Bn) : Rn d j_M_beginsBy 17 [.ref 50, .int b, .int (nI k)] [] (MS m0 v dx A LA (bgH s k)) (Pv (MS m0 v dx A LA (bgS s Bn b))) := by
  have ht : bgH s k 2 = nI Bn := (bgH_fx s k (by omega) 2 (by unfold fxc; omega)).trans hb
  refine Rn.step (pc' := 18) rfl rfl ?_
  refine Rn.step (pc' := 19) rfl rfl ?_
  refine Rn.getf (pc' := 22) rfl rfl rfl rfl rfl ?_
  refine Rn.iconst (v := 2) (pc' := 23) rfl (by decide) rfl ?_
  refine Rn.sald (k := 2) (pc' := 24) rfl rfl (by simp only [nI_lit, nI_add, pk_mul]) (by omega) (by decide) rfl ?_
  refine Rn.icmp_ge (pc1 := 53) (pc2 := 27) rfl rfl rfl (fun h24 => ?_) (fun h24 => ?_)
  · obtain rfl := nI_up (by omega) hk (ht ▸ h24)
    refine Rn.iconst (v := 0) (pc' := 54) rfl (by decide) rfl ?_
    refine Rn.step (pc' := 55) rfl rfl ?_
    refine Rn.step (pc' := 56) rfl rfl ?_
    refine Rn.iconst (v := 2) (pc' := 57) rfl (by decide) rfl ?_
    refine Rn.icmp_ge (pc1 := 80) (pc2 := 60) rfl rfl rfl (fun h57 => absurd h57 (show ¬ (2 : Int32) ≤ 0 from by decide)) (fun h57 => ?_)
    refine Rn.step (pc' := 61) rfl rfl ?_
    refine Rn.getf (pc' := 64) rfl rfl rfl rfl rfl ?_
    refine Rn.iconst (v := 46) (pc' := 66) rfl (by decide) rfl ?_
    refine Rn.iconst (v := 3) (pc' := 67) rfl (by decide) rfl ?_
    refine Rn.step (pc' := 68) rfl rfl ?_
    refine Rn.imul (pc' := 69) rfl rfl ?_
    refine Rn.iadd (pc' := 70) rfl rfl ?_
    refine Rn.iconst (v := 2) (pc' := 71) rfl (by decide) rfl ?_
    refine Rn.iadd (pc' := 72) rfl rfl ?_
    refine Rn.iconst (v := 0) (pc' := 73) rfl (by decide) rfl ?_
    refine Rn.sast (k := 48) (pc' := 74) rfl rfl (by decide) (by omega) (by decide) rfl ?_
    refine Rn.step (pc' := 77) rfl rfl ?_
    refine Rn.step (pc' := 55) rfl rfl ?_
    refine Rn.ls3 (b2 := .int 1) rfl rfl (congrArg Value.int (by decide)) ?_
    refine Rn.step (pc' := 56) rfl rfl ?_
    refine Rn.iconst (v := 2) (pc' := 57) rfl (by decide) rfl ?_
    refine Rn.icmp_ge (pc1 := 80) (pc2 := 60) rfl rfl rfl (fun h57 => absurd h57 (show ¬ (2 : Int32) ≤ 1 from by decide)) (fun h57 => ?_)
    refine Rn.step (pc' := 61) rfl rfl ?_
    refine Rn.getf (pc' := 64) rfl rfl rfl rfl rfl ?_
    refine Rn.iconst (v := 46) (pc' := 66) rfl (by decide) rfl ?_
    refine Rn.iconst (v := 3) (pc' := 67) rfl (by decide) rfl ?_
    refine Rn.step (pc' := 68) rfl rfl ?_
    refine Rn.imul (pc' := 69) rfl rfl ?_
    refine Rn.iadd (pc' := 70) rfl rfl ?_
    refine Rn.iconst (v := 2) (pc' := 71) rfl (by decide) rfl ?_
    refine Rn.iadd (pc' := 72) rfl rfl ?_
    refine Rn.iconst (v := 0) (pc' := 73) rfl (by decide) rfl ?_
    refine Rn.sast (k := 51) (pc' := 74) rfl rfl (by decide) (by omega) (by decide) rfl ?_
    refine Rn.step (pc' := 77) rfl rfl ?_
    refine Rn.step (pc' := 55) rfl rfl ?_
    refine Rn.ls3 (b2 := .int 2) rfl rfl (congrArg Value.int (by decide)) ?_
    refine Rn.step (pc' := 56) rfl rfl ?_
    refine Rn.iconst (v := 2) (pc' := 57) rfl (by decide) rfl ?_
    refine Rn.icmp_ge (pc1 := 80) (pc2 := 60) rfl rfl rfl (fun h57 => ?_) (fun h57 => absurd (show (2 : Int32) ≤ 2 from by decide) h57)
    refine Rn.step (pc' := 81) rfl rfl ?_
    refine Rn.step (pc' := 82) rfl rfl ?_
    refine Rn.vv (pc' := 85) rfl (by decide) (by omega) rfl rfl rfl (c_M_lendsTo (by omega) b) ?_
    exact Rn.retv rfl (rfl)
  · have hk2 := nI_dn (by omega) hk (ht ▸ h24)
    refine Rn.step (pc' := 28) rfl rfl ?_
    refine Rn.step (pc' := 29) rfl rfl ?_
    refine Rn.vv (pc' := 32) rfl (by decide) (by omega) rfl rfl rfl (c_M_goesHome k (by omega)) ?_
    refine Rn.step (pc' := 33) rfl rfl ?_
    refine Rn.getf (pc' := 36) rfl rfl rfl rfl rfl ?_
    refine Rn.iconst (v := 10) (pc' := 38) rfl (by decide) rfl ?_
    refine Rn.iconst (v := 6) (pc' := 40) rfl (by decide) rfl ?_
    refine Rn.step (pc' := 41) rfl rfl ?_
    refine Rn.imul (pc' := 42) rfl rfl ?_
    refine Rn.iadd (pc' := 43) rfl rfl ?_
    refine Rn.iconst (v := 5) (pc' := 44) rfl (by decide) rfl ?_
    refine Rn.iadd (pc' := 45) rfl rfl ?_
    refine Rn.iconst (v := 0) (pc' := 46) rfl (by decide) rfl ?_
    refine Rn.sast (k := 10 + 6 * k + 5) (pc' := 47) rfl rfl (by simp only [nI_lit, nI_add, pk_mul]) (by omega) (by decide) rfl ?_
    refine Rn.step (pc' := 50) rfl rfl ?_
    refine Rn.step (pc' := 17) rfl rfl ?_
    exact Rn.ls3 rfl rfl (congrArg Value.int (nI_i1 k)) (l_M_beginsBy hb hB6 hd (k + 1) (by omega))
termination_by Bn - k
theorem c_M_beginsBy {d : Nat} (hd : 2 ≤ d) {Bn : Nat} (b : Int32) (hb : s 2 = nI Bn) (hB6 : Bn ≤ 6) : Cl d j_M_beginsBy [.ref 50, .int b] (MS m0 v dx A LA s) (Pv (MS m0 v dx A LA (bgS s Bn b))) := by
  show Rn d j_M_beginsBy 0 _ _ _ _
  refine Rn.step (pc' := 1) rfl rfl ?_
  refine Rn.getf (pc' := 4) rfl rfl rfl rfl rfl ?_
  refine Rn.iconst (v := 5) (pc' := 5) rfl (by decide) rfl ?_
  refine Rn.iconst (v := 0) (pc' := 6) rfl (by decide) rfl ?_
  refine Rn.sast (k := 5) (pc' := 7) rfl rfl (by simp only [nI_lit, nI_add, pk_mul]) (by omega) (by decide) rfl ?_
  refine Rn.step (pc' := 8) rfl rfl ?_
  refine Rn.getf (pc' := 11) rfl rfl rfl rfl rfl ?_
  refine Rn.iconst (v := 6) (pc' := 13) rfl (by decide) rfl ?_
  refine Rn.iconst (v := 0) (pc' := 14) rfl (by decide) rfl ?_
  refine Rn.sast (k := 6) (pc' := 15) rfl rfl (by simp only [nI_lit, nI_add, pk_mul]) (by omega) (by decide) rfl ?_
  refine Rn.iconst (v := 0) (pc' := 16) rfl (by decide) rfl ?_
  refine Rn.step (pc' := 17) rfl rfl ?_
  exact l_M_beginsBy hb hB6 hd 0 (by omega)
/-- did one of the first k stand there with so many boots -/
def mWA (s : Nat → Int32) (sec p q : Int32) : Nat → Bool
  | 0 => false
  | k + 1 => mWA s sec p q k || decide (s (10 + 6 * k + 0) = p ∧ mBM s sec (nI k) = q)
theorem mWA_mono {s : Nat → Int32} {sec p q : Int32} {k : Nat} (h : mWA s sec p q k = true) : ∀ n, k ≤ n → mWA s sec p q n = true := by
  intro n hn
  induction hn with
  | refl => exact h
  | step _ ih => rw [mWA, ih]; rfl
theorem l_M_woreAt {d Bn : Nat} {p q : Int32} (hb : s 2 = nI Bn) (hB6 : Bn ≤ 6) (hd : 2 ≤ d) (k : Nat) (hk : k ≤ Bn) (hf : mWA s (v 23) p q k = false) : Rn d j_M_woreAt 2 [.ref 50, .int p, .int q, .int (nI k)] [] (MS m0 v dx A LA s) (Pi (if mWA s (v 23) p q Bn = true then 1 else 0) (MS m0 v dx A LA s)) := by
  refine Rn.step (pc' := 3) rfl rfl ?_
  refine Rn.step (pc' := 4) rfl rfl ?_
  refine Rn.getf (pc' := 7) rfl rfl rfl rfl rfl ?_
  refine Rn.iconst (v := 2) (pc' := 8) rfl (by decide) rfl ?_
  refine Rn.sald (k := 2) (pc' := 9) rfl rfl (by simp only [nI_lit, nI_add, pk_mul]) (by omega) (by decide) rfl ?_
  refine Rn.icmp_ge (pc1 := 39) (pc2 := 12) rfl rfl rfl (fun h9 => ?_) (fun h9 => ?_)
  · obtain rfl := nI_up (by omega) hk (hb ▸ h9)
    refine Rn.iconst (v := 0) (pc' := 40) rfl (by decide) rfl ?_
    exact Rn.reti rfl (by decide) (by rw [hf]; rfl) (rfl)
  · have hk2 := nI_dn (by omega) hk (hb ▸ h9)
    refine Rn.step (pc' := 13) rfl rfl ?_
    refine Rn.step (pc' := 14) rfl rfl ?_
    refine Rn.iconst (v := 0) (pc' := 15) rfl (by decide) rfl ?_
    refine Rn.vi (pc' := 18) rfl (by decide) (by omega) rfl rfl rfl (c_M_brotherOf k 0 (by omega)) ?_
    refine Rn.step (pc' := 19) rfl rfl ?_
    refine Rn.icmp_ne (pc1 := 33) (pc2 := 22) rfl rfl rfl (fun h19 => ?_) (fun h19 => ?_)
    · refine Rn.step (pc' := 36) rfl rfl ?_
      refine Rn.step (pc' := 2) rfl rfl ?_
      exact Rn.ls4 rfl rfl rfl (congrArg Value.int (nI_i1 k)) (l_M_woreAt hb hB6 hd (k + 1) (by omega) (by rw [mWA, hf, decide_eq_false (fun z => h19 z.1)]; rfl))
    · refine Rn.step (pc' := 23) rfl rfl ?_
      refine Rn.step (pc' := 24) rfl rfl ?_
      refine Rn.vi (pc' := 27) rfl (by decide) (by omega) rfl rfl rfl (c_M_bootsMany (by omega) (nI k)) ?_
      refine Rn.step (pc' := 28) rfl rfl ?_
      refine Rn.icmp_ne (pc1 := 33) (pc2 := 31) rfl rfl rfl (fun h28 => ?_) (fun h28 => ?_)
      · refine Rn.step (pc' := 36) rfl rfl ?_
        refine Rn.step (pc' := 2) rfl rfl ?_
        exact Rn.ls4 rfl rfl rfl (congrArg Value.int (nI_i1 k)) (l_M_woreAt hb hB6 hd (k + 1) (by omega) (by rw [mWA, hf, decide_eq_false (fun z => h28 z.2)]; rfl))
      · refine Rn.iconst (v := 1) (pc' := 32) rfl (by decide) rfl ?_
        exact Rn.reti rfl (by decide) (by rw [if_pos (mWA_mono (k := k + 1) (by rw [mWA, decide_eq_true ⟨h19, h28⟩, Bool.or_true]) Bn (by omega))]) (rfl)
termination_by Bn - k
theorem c_M_woreAt {d : Nat} (hd : 2 ≤ d) {Bn : Nat} (p q : Int32) (hb : s 2 = nI Bn) (hB6 : Bn ≤ 6) : Cl d j_M_woreAt [.ref 50, .int p, .int q] (MS m0 v dx A LA s) (Pi (if mWA s (v 23) p q Bn = true then 1 else 0) (MS m0 v dx A LA s)) := by
  show Rn d j_M_woreAt 0 _ _ _ _
  refine Rn.iconst (v := 0) (pc' := 1) rfl (by decide) rfl ?_
  refine Rn.step (pc' := 2) rfl rfl ?_
  exact l_M_woreAt hb hB6 hd 0 (by omega) rfl
/-- are the first k prints so that are told of an hour -/
def aPS (s : Nat → Int32) (sec : Int32) (Bn : Nat) (n : Int32) : Nat → Bool
  | 0 => true
  | k + 1 => aPS s sec Bn n k && !(decide (s (110 + 4 * k) = n ∧ ¬ (if mWA s sec (s (110 + 4 * k + 1)) (s (110 + 4 * k + 2)) Bn = true then (1 : Int32) else 0) = (if s (110 + 4 * k + 3) = 1 then 1 else 0)))
theorem aPS_mono {s : Nat → Int32} {sec n : Int32} {Bn k : Nat} (h : aPS s sec Bn n k = false) : ∀ j, k ≤ j → aPS s sec Bn n j = false := by
  intro j hj
  induction hj with
  | refl => exact h
  | step _ ih => rw [aPS, ih]; rfl
theorem l_M_arePrintsSo {d Bn K : Nat} {n : Int32} (hb : s 2 = nI Bn) (hB6 : Bn ≤ 6) (hK : s 150 = nI K) (hK10 : K ≤ 10) (hd : 3 ≤ d) (k : Nat) (x3 : Value) (hk : k ≤ K) (hf : aPS s (v 23) Bn n k = true) : Rn d j_M_arePrintsSo 2 [.ref 50, .int n, .int (nI k), x3] [] (MS m0 v dx A LA s) (Pi (if aPS s (v 23) Bn n K = true then 1 else 0) (MS m0 v dx A LA s)) := by
  refine Rn.step (pc' := 3) rfl rfl ?_
  refine Rn.step (pc' := 4) rfl rfl ?_
  refine Rn.getf (pc' := 7) rfl rfl rfl rfl rfl ?_
  refine Rn.iconst (v := 150) (pc' := 10) rfl (by decide) rfl ?_
  refine Rn.sald (k := 150) (pc' := 11) rfl rfl (by simp only [nI_lit, nI_add, pk_mul]) (by omega) (by decide) rfl ?_
  refine Rn.icmp_ge (pc1 := 79) (pc2 := 14) rfl rfl rfl (fun h11 => ?_) (fun h11 => ?_)
  · obtain rfl := nI_up (by omega) hk (hK ▸ h11)
    refine Rn.iconst (v := 1) (pc' := 80) rfl (by decide) rfl ?_
    exact Rn.reti rfl (by decide) (by rw [hf]; rfl) (rfl)
  · have hk2 := nI_dn (by omega) hk (hK ▸ h11)
    refine Rn.iconst (v := 110) (pc' := 16) rfl (by decide) rfl ?_
    refine Rn.iconst (v := 4) (pc' := 17) rfl (by decide) rfl ?_
    refine Rn.step (pc' := 18) rfl rfl ?_
    refine Rn.imul (pc' := 19) rfl rfl ?_
    refine Rn.iadd (pc' := 20) rfl rfl ?_
    refine Rn.step (pc' := 21) rfl rfl ?_
    refine Rn.step (pc' := 22) rfl rfl ?_
    refine Rn.getf (pc' := 25) rfl rfl rfl rfl rfl ?_
    refine Rn.step (pc' := 26) rfl rfl ?_
    refine Rn.sald (k := 110 + 4 * k) (pc' := 27) rfl rfl (by simp only [nI_lit, nI_add, pk_mul]) (by omega) (by decide) rfl ?_
    refine Rn.step (pc' := 28) rfl rfl ?_
    refine Rn.icmp_ne (pc1 := 73) (pc2 := 31) rfl rfl rfl (fun h28 => ?_) (fun h28 => ?_)
    · refine Rn.step (pc' := 76) rfl rfl ?_
      refine Rn.step (pc' := 2) rfl rfl ?_
      exact Rn.ls4 rfl rfl (congrArg Value.int (nI_i1 k)) rfl (l_M_arePrintsSo hb hB6 hK hK10 hd (k + 1) _ (by omega) (by rw [aPS, hf, decide_eq_false (fun z => h28 z.1)]; rfl))
    · refine Rn.step (pc' := 32) rfl rfl ?_
      refine Rn.step (pc' := 33) rfl rfl ?_
      refine Rn.getf (pc' := 36) rfl rfl rfl rfl rfl ?_
      refine Rn.step (pc' := 37) rfl rfl ?_
      refine Rn.iconst (v := 1) (pc' := 38) rfl (by decide) rfl ?_
      refine Rn.iadd (pc' := 39) rfl rfl ?_
      refine Rn.sald (k := 110 + 4 * k + 1) (pc' := 40) rfl rfl (by simp only [nI_lit, nI_add, pk_mul]) (by omega) (by decide) rfl ?_
      refine Rn.step (pc' := 41) rfl rfl ?_
      refine Rn.getf (pc' := 44) rfl rfl rfl rfl rfl ?_
      refine Rn.step (pc' := 45) rfl rfl ?_
      refine Rn.iconst (v := 2) (pc' := 46) rfl (by decide) rfl ?_
      refine Rn.iadd (pc' := 47) rfl rfl ?_
      refine Rn.sald (k := 110 + 4 * k + 2) (pc' := 48) rfl rfl (by simp only [nI_lit, nI_add, pk_mul]) (by omega) (by decide) rfl ?_
      refine Rn.vi (pc' := 51) rfl (by decide) (by omega) rfl rfl rfl (c_M_woreAt (by omega) _ _ hb hB6) ?_
      refine Rn.step (pc' := 52) rfl rfl ?_
      refine Rn.getf (pc' := 55) rfl rfl rfl rfl rfl ?_
      refine Rn.step (pc' := 56) rfl rfl ?_
      refine Rn.iconst (v := 3) (pc' := 57) rfl (by decide) rfl ?_
      refine Rn.iadd (pc' := 58) rfl rfl ?_
      refine Rn.sald (k := 110 + 4 * k + 3) (pc' := 59) rfl rfl (by simp only [nI_lit, nI_add, pk_mul]) (by omega) (by decide) rfl ?_
      refine Rn.iconst (v := 1) (pc' := 60) rfl (by decide) rfl ?_
      refine Rn.icmp_ne (pc1 := 67) (pc2 := 63) rfl rfl rfl (fun h60 => ?_) (fun h60 => ?_)
      · refine Rn.iconst (v := 0) (pc' := 68) rfl (by decide) rfl ?_
        refine Rn.icmp_eq (pc1 := 73) (pc2 := 71) rfl rfl rfl (fun h68 => ?_) (fun h68 => ?_)
        · refine Rn.step (pc' := 76) rfl rfl ?_
          refine Rn.step (pc' := 2) rfl rfl ?_
          exact Rn.ls4 rfl rfl (congrArg Value.int (nI_i1 k)) rfl (l_M_arePrintsSo hb hB6 hK hK10 hd (k + 1) _ (by omega) (by rw [aPS, hf, decide_eq_false (fun z => z.2 (by first | (rw [if_pos h60]; exact h68) | (rw [if_neg h60]; exact h68)))]; rfl))
        · refine Rn.iconst (v := 0) (pc' := 72) rfl (by decide) rfl ?_
          exact Rn.reti rfl (by decide) (by
              rw [if_neg]
              rw [aPS_mono (k := k + 1) (by rw [aPS, decide_eq_true ⟨h28, by first | (rw [if_pos h60]; exact h68) | (rw [if_neg h60]; exact h68)⟩, Bool.not_true, Bool.and_false]) K (by omega)]
              exact fun z => Bool.noConfusion z) (rfl)
      · refine Rn.iconst (v := 1) (pc' := 64) rfl (by decide) rfl ?_
        refine Rn.step (pc' := 68) rfl rfl ?_
        refine Rn.icmp_eq (pc1 := 73) (pc2 := 71) rfl rfl rfl (fun h68 => ?_) (fun h68 => ?_)
        · refine Rn.step (pc' := 76) rfl rfl ?_
          refine Rn.step (pc' := 2) rfl rfl ?_
          exact Rn.ls4 rfl rfl (congrArg Value.int (nI_i1 k)) rfl (l_M_arePrintsSo hb hB6 hK hK10 hd (k + 1) _ (by omega) (by rw [aPS, hf, decide_eq_false (fun z => z.2 (by first | (rw [if_pos h60]; exact h68) | (rw [if_neg h60]; exact h68)))]; rfl))
        · refine Rn.iconst (v := 0) (pc' := 72) rfl (by decide) rfl ?_
          exact Rn.reti rfl (by decide) (by
              rw [if_neg]
              rw [aPS_mono (k := k + 1) (by rw [aPS, decide_eq_true ⟨h28, by first | (rw [if_pos h60]; exact h68) | (rw [if_neg h60]; exact h68)⟩, Bool.not_true, Bool.and_false]) K (by omega)]
              exact fun z => Bool.noConfusion z) (rfl)
termination_by K - k
theorem c_M_arePrintsSo {d : Nat} (hd : 3 ≤ d) {Bn K : Nat} (n : Int32) (hb : s 2 = nI Bn) (hB6 : Bn ≤ 6) (hK : s 150 = nI K) (hK10 : K ≤ 10) : Cl d j_M_arePrintsSo [.ref 50, .int n] (MS m0 v dx A LA s) (Pi (if aPS s (v 23) Bn n K = true then 1 else 0) (MS m0 v dx A LA s)) := by
  show Rn d j_M_arePrintsSo 0 _ _ _ _
  refine Rn.iconst (v := 0) (pc' := 1) rfl (by decide) rfl ?_
  refine Rn.step (pc' := 2) rfl rfl ?_
  exact l_M_arePrintsSo hb hB6 hK hK10 hd 0 _ (by omega) rfl
theorem oS_s (E : xEv) (s : Nat → Int32) (n : Nat) : oS E s (n + 1) = hS E (oS E s n) := by
  show (mPo E s 0 (n + 1)).1 = _
  rw [mPo_s]
  exact (mPs_z E _ _).1
/-- are all prints so, of the hours 0 to n -/
def fPr (E : xEv) (t : Nat → Int32) (K : Nat) : Nat → Bool
  | 0 => aPS t E.sec E.Bn (nI 0) K
  | n + 1 => fPr E t K n && aPS (oS E t (n + 1)) E.sec E.Bn (nI (n + 1)) K
theorem fPr_mono {E : xEv} {t : Nat → Int32} {K k : Nat} (h : fPr E t K k = false) : ∀ j, k ≤ j → fPr E t K j = false := by
  intro j hj
  induction hj with
  | refl => exact h
  | step _ ih => rw [fPr, ih]; rfl
abbrev b01 (b : Bool) : Int32 := if b = true then 1 else 0
theorem b01_0 {b : Bool} (h : b01 b = 0) : b = false := by
  cases b
  · rfl
  · exact absurd h (by decide)
theorem b01_1 {b : Bool} (h : ¬ b01 b = 0) : b = true := by
  cases b
  · exact absurd rfl h
  · rfl
theorem l_M_fitsPrints {d P Bn Fn Wn K : Nat} {rl : xRl} {b1 : Int32} {t : Nat → Int32} (hl : WL P Bn Fn Wn s) (hw0 : WD P Bn t) (hft : FX s t) (hv : v 24 = 0 ∨ v 24 = 1) (hru : mRu v A rl) (hK : s 150 = nI K) (hK10 : K ≤ 10) (hd : 6 ≤ d) (k : Nat) (hk : k ≤ 47) {u : Nat → Int32} (hf : FX s u) (hu : fPr (evf v rl Bn Fn Wn) t K k = true → u = oS (evf v rl Bn Fn Wn) t k ∧ WD P Bn u) {m : xM} (hm : MU m0 v A u (fun _ _ B => ∀ i, i < 52 → B 62 i = s i) m) : Rn d j_M_fitsPrints 17 [.ref 50, .int b1, .int (b01 (fPr (evf v rl Bn Fn Wn) t K k)), .int (nI (k + 1))] [] m (fun r m2 => r = some (.int (b01 (fPr (evf v rl Bn Fn Wn) t K 47))) ∧ MG m0 v A s m2) := by
  obtain ⟨v1, dx1, A1, LA1, rfl, vs1, as1, q62⟩ := hm
  have hE := evf_eq vs1 rl Bn Fn Wn
  have ht := hl.fx hf
  refine Rn.step (pc' := 18) rfl rfl ?_
  refine Rn.iconst (v := 48) (pc' := 20) rfl (by decide) rfl ?_
  refine Rn.icmp_ge (pc1 := 44) (pc2 := 23) rfl rfl rfl (fun h20 => ?_) (fun h20 => ?_)
  · have hfin : fPr (evf v rl Bn Fn Wn) t K k = fPr (evf v rl Bn Fn Wn) t K 47 := by
      first
      | (have := (nI_leI (a := 48) (b := k + 1) (by omega) (by omega)).mp h20; rw [show k = 47 by omega]; done)
      | (have hF := b01_0 h24; rw [hF, fPr_mono hF 47 (by omega)])
    refine Rn.step (pc' := 45) rfl rfl ?_
    refine Rn.vv (pc' := 48) rfl (by decide) (by omega) rfl rfl rfl (c_M_laysBack) ?_
    refine Rn.step (pc' := 49) rfl rfl ?_
    exact Rn.iret rfl (nar_b (by unfold b01; split; exact Or.inr rfl; exact Or.inl rfl)) (⟨by rw [hfin], by
        rw [cpf_back2 hf q62]
        exact ⟨v1, dx1, A1, LA1, rfl, vs1, as1⟩⟩)
  · refine Rn.step (pc' := 24) rfl rfl ?_
    refine Rn.ifc_eq (pc1 := 44) (pc2 := 27) rfl rfl rfl (fun h24 => ?_) (fun h24 => ?_)
    · have hfin : fPr (evf v rl Bn Fn Wn) t K k = fPr (evf v rl Bn Fn Wn) t K 47 := by
        first
        | (have := (nI_leI (a := 48) (b := k + 1) (by omega) (by omega)).mp h20; rw [show k = 47 by omega]; done)
        | (have hF := b01_0 h24; rw [hF, fPr_mono hF 47 (by omega)])
      refine Rn.step (pc' := 45) rfl rfl ?_
      refine Rn.vv (pc' := 48) rfl (by decide) (by omega) rfl rfl rfl (c_M_laysBack) ?_
      refine Rn.step (pc' := 49) rfl rfl ?_
      exact Rn.iret rfl (nar_b (by unfold b01; split; exact Or.inr rfl; exact Or.inl rfl)) (⟨by rw [hfin], by
          rw [cpf_back2 hf q62]
          exact ⟨v1, dx1, A1, LA1, rfl, vs1, as1⟩⟩)
    · have hk3 : k < 47 := by
        have := mt (nI_leI (a := 48) (b := k + 1) (by omega) (by omega)).mpr h20
        omega
      have hT := b01_1 h24
      obtain ⟨e, hw1⟩ := hu hT
      subst e
      have hK3 : hS (evf v1 rl Bn Fn Wn) (oS (evf v rl Bn Fn Wn) t k) 150 = nI K := ((mPs_w (E := evf v1 rl Bn Fn Wn) 0 ht hw1).1 150 (by unfold fxc; omega)).trans ((hf 150 (by unfold fxc; omega)).trans hK)
      refine Rn.step (pc' := 28) rfl rfl ?_
      refine Rn.callV (pc' := 31) rfl (by decide) (by omega) rfl rfl rfl (g_pass ht hw1 (hv_g hv vs1) (hru.g vs1 as1) (by omega)) (fun r_ m_ hc_ => ?_)
      have hf2 : FX s (hS (evf v1 rl Bn Fn Wn) (oS (evf v rl Bn Fn Wn) t k)) := hf.trans (mPs_w (E := evf v1 rl Bn Fn Wn) 0 ht hw1).1
      have hw2 : WD P Bn (hS (evf v1 rl Bn Fn Wn) (oS (evf v rl Bn Fn Wn) t k)) := (mPs_w (E := evf v1 rl Bn Fn Wn) 0 ht hw1).2
      obtain ⟨rfl, x3, LA3, rfl⟩ := hc_
      refine Rn.step (pc' := 32) rfl rfl ?_
      refine Rn.step (pc' := 33) rfl rfl ?_
      refine Rn.step (pc' := 34) rfl rfl ?_
      refine Rn.vi (pc' := 37) rfl (by decide) (by omega) rfl rfl rfl (c_M_arePrintsSo (by omega) (nI (k + 1)) (ht.fx (mPs_w 0 ht hw1).1).b hl.b6 (K := K) hK3 hK10) ?_
      refine Rn.step (pc' := 38) rfl rfl ?_
      refine Rn.step (pc' := 41) rfl rfl ?_
      refine Rn.step (pc' := 17) rfl rfl ?_
      rw [hE] at hf2 hw2 ⊢
      have e2 : fPr (evf v rl Bn Fn Wn) t K (k + 1) = aPS (oS (evf v rl Bn Fn Wn) t (k + 1)) (v 23) Bn (nI (k + 1)) K := by
        rw [fPr, hT, Bool.true_and]
      have vs9 := vs_up (vs_up vs1 (a := 25) (by unfold scr; omega) (mPs (evf v rl Bn Fn Wn) (oS (evf v rl Bn Fn Wn) t k) (v1 25)).2.1) (a := 18) (by unfold scr; omega) x3
      have := l_M_fitsPrints (b1 := b1) hl hw0 hft hv hru hK hK10 hd (k + 1) (by omega) (u := hS (evf v rl Bn Fn Wn) (oS (evf v rl Bn Fn Wn) t k)) hf2 (fun _ => ⟨(oS_s _ _ _).symm, hw2⟩) ⟨_, dx1, A1, LA3, rfl, vs9, as1, q62⟩
      rw [e2, oS_s, ← nI_i1 (k + 1)] at this
      have h23 : upd (upd v1 25 (mPs (evf v rl Bn Fn Wn) (oS (evf v rl Bn Fn Wn) t k) (v1 25)).2.1) 18 x3 23 = v 23 := vs9 23 (by unfold scr; omega)
      rw [h23]
      exact this
termination_by 47 - k
theorem c_M_fitsPrints {d P Bn Fn Wn K : Nat} {rl : xRl} (hl : WL P Bn Fn Wn s) (hw : WD P Bn s) (hv : v 24 = 0 ∨ v 24 = 1) (hru : mRu v A rl) (hK : s 150 = nI K) (hK10 : K ≤ 10) (hd : 6 ≤ d) {b : Int32} (hb : b = -1 ∨ ∃ c, c < Bn ∧ b = nI c) {m : xM} (hm : MG m0 v A s m) : Cl d j_M_fitsPrints [.ref 50, .int b] m (fun r m2 => r = some (.int (b01 (fPr (evf v rl Bn Fn Wn) (bgS s Bn b) K 47))) ∧ MG m0 v A s m2) := by
  show Rn d j_M_fitsPrints 0 _ _ _ _
  obtain ⟨v1, dx1, A1, LA1, rfl, vs1, as1⟩ := hm
  have hfw := bgS_w hl hw hb
  have hK3 : bgS s Bn b 150 = nI K := (hfw.1 150 (by unfold fxc; omega)).trans hK
  refine Rn.step (pc' := 1) rfl rfl ?_
  refine Rn.vv (pc' := 4) rfl (by decide) (by omega) rfl rfl rfl (c_M_keeps) ?_
  refine Rn.step (pc' := 5) rfl rfl ?_
  refine Rn.step (pc' := 6) rfl rfl ?_
  refine Rn.vv (pc' := 9) rfl (by decide) (by omega) rfl rfl rfl (c_M_beginsBy (by omega) b hl.b hl.b6) ?_
  refine Rn.step (pc' := 10) rfl rfl ?_
  refine Rn.iconst (v := 0) (pc' := 11) rfl (by decide) rfl ?_
  refine Rn.vi (pc' := 14) rfl (by decide) (by omega) rfl rfl rfl (c_M_arePrintsSo (by omega) (nI 0) (hl.fx hfw.1).b hl.b6 (K := K) hK3 hK10) ?_
  refine Rn.step (pc' := 15) rfl rfl ?_
  refine Rn.iconst (v := 1) (pc' := 16) rfl (by decide) rfl ?_
  refine Rn.step (pc' := 17) rfl rfl ?_
  have h23 : v1 23 = v 23 := vs1 23 (by unfold scr; omega)
  rw [h23]
  exact l_M_fitsPrints hl hfw.2 hfw.1 hv hru hK hK10 hd 0 (by omega) hfw.1 (fun _ => ⟨rfl, hfw.2⟩) ⟨_, _, _, _, rfl, vs1, as_up as1 (by unfold sca; omega) _, cpf_lt⟩
/-- a set's bits -/
theorem bit_or : ∀ k, k < 7 → ∀ a, a < 2 ^ k → nI a ||| ((1 : Int32) <<< (nI k &&& 31)) = nI (a + 2 ^ k) := by decide +kernel
theorem bit_is : ∀ a, a < 128 → ∀ k, k < 7 → ((nI a >>> (nI k &&& 31) &&& 1 = 1) ↔ a.testBit k = true) := by decide +kernel
theorem or_0 (x : Int32) : x ||| 0 = x := by simp
theorem c_M_isOf {d : Nat} {a k : Nat} (ha : a < 128) (hk : k < 7) : Cl d j_M_isOf [.int (nI a), .int (nI k)] m0 (Pi (if a.testBit k = true then 1 else 0) m0) := by
  show Rn d j_M_isOf 0 _ _ _ _
  refine Rn.step (pc' := 1) rfl rfl ?_
  refine Rn.step (pc' := 2) rfl rfl ?_
  refine Rn.ishr (pc' := 3) rfl rfl ?_
  refine Rn.iconst (v := 1) (pc' := 4) rfl (by decide) rfl ?_
  refine Rn.iand (pc' := 5) rfl rfl ?_
  refine Rn.iconst (v := 1) (pc' := 6) rfl (by decide) rfl ?_
  refine Rn.icmp_ne (pc1 := 13) (pc2 := 9) rfl rfl rfl (fun h6 => ?_) (fun h6 => ?_)
  · refine Rn.iconst (v := 0) (pc' := 14) rfl (by decide) rfl ?_
    exact Rn.reti rfl (by decide) (by rw [if_neg (mt (bit_is a ha k hk).mpr h6)]) (rfl)
  · refine Rn.iconst (v := 1) (pc' := 10) rfl (by decide) rfl ?_
    refine Rn.step (pc' := 14) rfl rfl ?_
    exact Rn.reti rfl (by decide) (by rw [if_pos ((bit_is a ha k hk).mp h6)]) (rfl)
/-- is k - 1 one who may have left the prints (0: nobody) -/
def fbt (E : xEv) (s : Nat → Int32) (K k : Nat) : Bool := decide (k = 0 ∨ ¬ s 1 < s (10 + 6 * (k - 1) + 2)) && fPr E (bgS s E.Bn (nI k - 1)) K 47
def fbN (E : xEv) (s : Nat → Int32) (K : Nat) : Nat → Nat
  | 0 => 0
  | k + 1 => fbN E s K k + if fbt E s K k = true then 2 ^ k else 0
theorem fbN_lt (E : xEv) (s : Nat → Int32) (K : Nat) : ∀ k, fbN E s K k < 2 ^ k
  | 0 => Nat.zero_lt_one
  | k + 1 => by
    have := fbN_lt E s K k
    rw [fbN, Nat.pow_succ]
    split <;> omega
theorem im1 (k : Nat) : nI k + Int32.ofInt (-1) = nI k - 1 := by
  rw [Int32.sub_eq_add_neg]
  rfl
theorem p128 {b : Nat} (h : b ≤ 6) : 2 ^ (b + 1) ≤ 128 := Nat.pow_le_pow_right (n := 2) (j := 7) (by omega) (by omega)
theorem nI_0m : nI 0 - 1 = -1 := by decide
theorem l_M_feetBits {d P Bn Fn Wn K : Nat} {rl : xRl} (hl : WL P Bn Fn Wn s) (hw : WD P Bn s) (hv : v 24 = 0 ∨ v 24 = 1) (hru : mRu v A rl) (hK : s 150 = nI K) (hK10 : K ≤ 10) (hd : 7 ≤ d) (k : Nat) (hk : k ≤ Bn + 1) {m : xM} (hm : MG m0 v A s m) : Rn d j_M_feetBits 4 [.ref 50, .int (nI (fbN (evf v rl Bn Fn Wn) s K k)), .int (nI k)] [] m (fun r m2 => r = some (.int (nI (fbN (evf v rl Bn Fn Wn) s K (Bn + 1)))) ∧ MG m0 v A s m2) := by
  obtain ⟨v1, dx1, A1, LA1, rfl, vs1, as1⟩ := hm
  have hb6 := hl.b6
  refine Rn.step (pc' := 5) rfl rfl ?_
  refine Rn.step (pc' := 6) rfl rfl ?_
  refine Rn.getf (pc' := 9) rfl rfl rfl rfl rfl ?_
  refine Rn.iconst (v := 2) (pc' := 10) rfl (by decide) rfl ?_
  refine Rn.sald (k := 2) (pc' := 11) rfl rfl (by simp only [nI_lit, nI_add, pk_mul]) (by omega) (by decide) rfl ?_
  refine Rn.icmp_gt (pc1 := 54) (pc2 := 14) rfl rfl rfl (fun h11 => ?_) (fun h11 => ?_)
  · have hk3 : k = Bn + 1 := by
      have := (nI_ltI (a := Bn) (b := k) (by omega) (by omega)).mp (hl.b ▸ h11)
      omega
    subst hk3
    refine Rn.step (pc' := 55) rfl rfl ?_
    exact Rn.iret rfl (rfl) (⟨rfl, v1, dx1, A1, LA1, rfl, vs1, as1⟩)
  · have hk2 : k < Bn + 1 := by
      have := mt (nI_ltI (a := Bn) (b := k) (by omega) (by omega)).mpr (hl.b ▸ h11)
      omega
    have hb : nI k - 1 = -1 ∨ ∃ c, c < Bn ∧ nI k - 1 = nI c := by
      cases k with
      | zero => exact Or.inl nI_0m
      | succ c => exact Or.inr ⟨c, by omega, nI_pred c⟩
    refine Rn.step (pc' := 15) rfl rfl ?_
    refine Rn.ifc_eq (pc1 := 28) (pc2 := 18) rfl rfl rfl (fun h15 => ?_) (fun h15 => ?_)
    · refine Rn.step (pc' := 29) rfl rfl ?_
      refine Rn.step (pc' := 30) rfl rfl ?_
      refine Rn.step (pc' := 31) rfl rfl ?_
      refine Rn.iconst (v := 1) (pc' := 32) rfl (by decide) rfl ?_
      refine Rn.isub (pc' := 33) rfl rfl ?_
      refine Rn.callV (pc' := 36) rfl (by decide) (by omega) rfl rfl rfl (c_M_fitsPrints hl hw hv hru hK hK10 (by omega) hb ⟨v1, dx1, A1, LA1, rfl, vs1, as1⟩) (fun r_ m_ hc_ => ?_)
      obtain ⟨rfl, hm3⟩ := hc_
      have hm4 := hm3
      obtain ⟨v3, dx3, A3, LA3, rfl, vs3, as3⟩ := hm4
      refine Rn.ifc_eq (pc1 := 45) (pc2 := 39) rfl rfl rfl (fun h36 => ?_) (fun h36 => ?_)
      · refine Rn.iconst (v := 0) (pc' := 46) rfl (by decide) rfl ?_
        refine Rn.ior (pc' := 47) rfl rfl ?_
        refine Rn.step (pc' := 48) rfl rfl ?_
        refine Rn.step (pc' := 51) rfl rfl ?_
        refine Rn.step (pc' := 4) rfl rfl ?_
        have hF : fbt (evf v rl Bn Fn Wn) s K k = false := by
          unfold fbt
          rw [decide_eq_true (Or.inl (by rcases Nat.eq_zero_or_pos k with z | z; exact z; exact absurd h15 (fun y => absurd ((nI_eq (b := 0) (by omega) (by omega)).mp y) (by omega)))), Bool.true_and]
          exact b01_0 h36
        have e : nI (fbN (evf v rl Bn Fn Wn) s K (k + 1)) = nI (fbN (evf v rl Bn Fn Wn) s K k) ||| 0 := by rw [fbN, hF, or_0]; rfl
        have := l_M_feetBits hl hw hv hru hK hK10 hd (k + 1) (by omega) hm3
        rw [e, ← nI_i1 k] at this
        exact this
      · refine Rn.iconst (v := 1) (pc' := 40) rfl (by decide) rfl ?_
        refine Rn.step (pc' := 41) rfl rfl ?_
        refine Rn.ishl (pc' := 42) rfl rfl ?_
        refine Rn.step (pc' := 46) rfl rfl ?_
        refine Rn.ior (pc' := 47) rfl rfl ?_
        refine Rn.step (pc' := 48) rfl rfl ?_
        refine Rn.step (pc' := 51) rfl rfl ?_
        refine Rn.step (pc' := 4) rfl rfl ?_
        have hF : fbt (evf v rl Bn Fn Wn) s K k = true := by
          unfold fbt
          rw [decide_eq_true (Or.inl (by rcases Nat.eq_zero_or_pos k with z | z; exact z; exact absurd h15 (fun y => absurd ((nI_eq (b := 0) (by omega) (by omega)).mp y) (by omega)))), Bool.true_and]
          exact b01_1 h36
        have e : nI (fbN (evf v rl Bn Fn Wn) s K (k + 1)) = nI (fbN (evf v rl Bn Fn Wn) s K k) ||| ((1 : Int32) <<< (nI k &&& 31)) := by rw [fbN, hF, if_pos rfl, bit_or k (by omega) _ (fbN_lt _ _ _ _)]
        have := l_M_feetBits hl hw hv hru hK hK10 hd (k + 1) (by omega) hm3
        rw [e, ← nI_i1 k] at this
        exact this
    · refine Rn.step (pc' := 19) rfl rfl ?_
      refine Rn.step (pc' := 20) rfl rfl ?_
      refine Rn.iconst (v := 1) (pc' := 21) rfl (by decide) rfl ?_
      refine Rn.isub (pc' := 22) rfl rfl ?_
      have hk0 : k ≠ 0 := fun z => h15 (by rw [z]; rfl)
      rw [show nI k - 1 = nI (k - 1) from nI_sub (b := 1) (by omega) (by omega)]
      refine Rn.vi (pc' := 25) rfl (by decide) (by omega) rfl rfl rfl (c_M_fits (by omega) (k - 1) (by omega)) ?_
      refine Rn.ifq_eq (pc1 := 48) (pc2 := 28) rfl rfl rfl (fun h25 => ?_) (fun h25 => ?_)
      · refine Rn.step (pc' := 51) rfl rfl ?_
        refine Rn.step (pc' := 4) rfl rfl ?_
        have hF : fbt (evf v rl Bn Fn Wn) s K k = false := by
          unfold fbt
          rw [decide_eq_false (fun z => z.elim (fun c => h15 (by rw [c]; rfl)) (fun c => c h25)), Bool.false_and]
        have e : fbN (evf v rl Bn Fn Wn) s K (k + 1) = fbN (evf v rl Bn Fn Wn) s K k := by rw [fbN, hF]; rfl
        have := l_M_feetBits hl hw hv hru hK hK10 hd (k + 1) (by omega) ⟨v1, dx1, A1, LA1, rfl, vs1, as1⟩
        rw [e, ← nI_i1 k] at this
        exact this
      · refine Rn.step (pc' := 29) rfl rfl ?_
        refine Rn.step (pc' := 30) rfl rfl ?_
        refine Rn.step (pc' := 31) rfl rfl ?_
        refine Rn.iconst (v := 1) (pc' := 32) rfl (by decide) rfl ?_
        refine Rn.isub (pc' := 33) rfl rfl ?_
        refine Rn.callV (pc' := 36) rfl (by decide) (by omega) rfl rfl rfl (c_M_fitsPrints hl hw hv hru hK hK10 (by omega) hb ⟨v1, dx1, A1, LA1, rfl, vs1, as1⟩) (fun r_ m_ hc_ => ?_)
        obtain ⟨rfl, hm3⟩ := hc_
        have hm4 := hm3
        obtain ⟨v3, dx3, A3, LA3, rfl, vs3, as3⟩ := hm4
        refine Rn.ifc_eq (pc1 := 45) (pc2 := 39) rfl rfl rfl (fun h36 => ?_) (fun h36 => ?_)
        · refine Rn.iconst (v := 0) (pc' := 46) rfl (by decide) rfl ?_
          refine Rn.ior (pc' := 47) rfl rfl ?_
          refine Rn.step (pc' := 48) rfl rfl ?_
          refine Rn.step (pc' := 51) rfl rfl ?_
          refine Rn.step (pc' := 4) rfl rfl ?_
          have hF : fbt (evf v rl Bn Fn Wn) s K k = false := by
            unfold fbt
            rw [decide_eq_true (Or.inr h25), Bool.true_and]
            exact b01_0 h36
          have e : nI (fbN (evf v rl Bn Fn Wn) s K (k + 1)) = nI (fbN (evf v rl Bn Fn Wn) s K k) ||| 0 := by rw [fbN, hF, or_0]; rfl
          have := l_M_feetBits hl hw hv hru hK hK10 hd (k + 1) (by omega) hm3
          rw [e, ← nI_i1 k] at this
          exact this
        · refine Rn.iconst (v := 1) (pc' := 40) rfl (by decide) rfl ?_
          refine Rn.step (pc' := 41) rfl rfl ?_
          refine Rn.ishl (pc' := 42) rfl rfl ?_
          refine Rn.step (pc' := 46) rfl rfl ?_
          refine Rn.ior (pc' := 47) rfl rfl ?_
          refine Rn.step (pc' := 48) rfl rfl ?_
          refine Rn.step (pc' := 51) rfl rfl ?_
          refine Rn.step (pc' := 4) rfl rfl ?_
          have hF : fbt (evf v rl Bn Fn Wn) s K k = true := by
            unfold fbt
            rw [decide_eq_true (Or.inr h25), Bool.true_and]
            exact b01_1 h36
          have e : nI (fbN (evf v rl Bn Fn Wn) s K (k + 1)) = nI (fbN (evf v rl Bn Fn Wn) s K k) ||| ((1 : Int32) <<< (nI k &&& 31)) := by rw [fbN, hF, if_pos rfl, bit_or k (by omega) _ (fbN_lt _ _ _ _)]
          have := l_M_feetBits hl hw hv hru hK hK10 hd (k + 1) (by omega) hm3
          rw [e, ← nI_i1 k] at this
          exact this
termination_by Bn + 1 - k
theorem c_M_feetBits {d P Bn Fn Wn K : Nat} {rl : xRl} (hl : WL P Bn Fn Wn s) (hw : WD P Bn s) (hv : v 24 = 0 ∨ v 24 = 1) (hru : mRu v A rl) (hK : s 150 = nI K) (hK10 : K ≤ 10) (hd : 7 ≤ d) {m : xM} (hm : MG m0 v A s m) : Cl d j_M_feetBits [.ref 50] m (fun r m2 => r = some (.int (nI (fbN (evf v rl Bn Fn Wn) s K (Bn + 1)))) ∧ MG m0 v A s m2) := by
  show Rn d j_M_feetBits 0 _ _ _ _
  refine Rn.iconst (v := 0) (pc' := 1) rfl (by decide) rfl ?_
  refine Rn.step (pc' := 2) rfl rfl ?_
  refine Rn.iconst (v := 0) (pc' := 3) rfl (by decide) rfl ?_
  refine Rn.step (pc' := 4) rfl rfl ?_
  exact l_M_feetBits hl hw hv hru hK hK10 hd 0 (by omega) hm
/-- how many are in the set, and the least but one -/
def ftG (a : Nat) : Nat → Nat × Int32 → Nat × Int32
  | 0, q => q
  | k + 1, q => ftG a k (if a.testBit k = true then (q.1 + 1, nI k - 1) else q)
def gFe (s : Nat → Int32) (y : Int32) : Prop := ¬ 0 < s 0 ∨ ¬ (0 ≤ y ∧ y ≤ 1)
def aFe (a Bn : Nat) (y : Int32) : Int32 := if y = 0 then nI (ftG a (Bn + 1) (0, -2)).1 else (ftG a (Bn + 1) (0, -2)).2
theorem l_M_feet {d a Bn : Nat} {y : Int32} (ha : a < 128) (hB6 : Bn ≤ 6) (k : Nat) (q : Nat × Int32) (hk : k ≤ Bn + 1) (hd : 1 ≤ d) (hq : ftG a k q = ftG a (Bn + 1) (0, -2)) : Rn d j_M_feet 39 [.ref 50, .int y, .int (nI a), .int (nI q.1), .int q.2, .int (nI k - 1)] [] (MS m0 v dx A LA s) (Pi (aFe a Bn y) (MS m0 v dx A LA s)) := by
  cases k with
  | zero =>
    rw [nI_0m]
    refine Rn.step (pc' := 41) rfl rfl ?_
    refine Rn.ifc_lt (pc1 := 71) (pc2 := 44) rfl rfl rfl (fun h41 => ?_) (fun h41 => absurd (by decide) h41)
    refine Rn.step (pc' := 72) rfl rfl ?_
    refine Rn.ifc_ne (pc1 := 79) (pc2 := 75) rfl rfl rfl (fun h72 => ?_) (fun h72 => ?_)
    · refine Rn.step (pc' := 81) rfl rfl ?_
      exact Rn.iret rfl (rfl) (⟨by
          unfold aFe
          rw [if_neg h72, ← hq]
          rfl, rfl⟩)
    · refine Rn.step (pc' := 76) rfl rfl ?_
      refine Rn.step (pc' := 81) rfl rfl ?_
      exact Rn.iret rfl (rfl) (⟨by
          unfold aFe
          rw [if_pos h72, ← hq]
          rfl, rfl⟩)
  | succ k =>
    rw [nI_pred]
    refine Rn.step (pc' := 41) rfl rfl ?_
    refine Rn.ifc_lt (pc1 := 71) (pc2 := 44) rfl rfl rfl (fun h41 => absurd h41 (nI_pos (by omega))) (fun h41 => ?_)
    refine Rn.step (pc' := 45) rfl rfl ?_
    refine Rn.step (pc' := 47) rfl rfl ?_
    refine Rn.si (pc' := 50) rfl (by decide) (by omega) rfl rfl (c_M_isOf (m0 := MS m0 v dx A LA s) ha (show k < 7 by omega)) ?_
    refine Rn.ifp_ne (pc1 := 56) (pc2 := 53) rfl rfl rfl (fun h50 => ?_) (fun h50 => ?_)
    · refine Rn.step (pc' := 59) rfl rfl ?_
      refine Rn.step (pc' := 61) rfl rfl ?_
      refine Rn.iconst (v := 1) (pc' := 62) rfl (by decide) rfl ?_
      refine Rn.isub (pc' := 63) rfl rfl ?_
      refine Rn.step (pc' := 65) rfl rfl ?_
      refine Rn.step (pc' := 68) rfl rfl ?_
      refine Rn.step (pc' := 39) rfl rfl ?_
      have := l_M_feet (y := y) ha hB6 k (q.1 + 1, nI k - 1) (by omega) hd (by rw [hq.symm, ftG, if_pos h50])
      rw [show ((q.1 + 1, nI k - 1) : Nat × Int32).1 = q.1 + 1 from rfl, ← nI_i1 q.1] at this
      exact Rn.ls6 rfl rfl rfl rfl rfl (congrArg Value.int (im1 k)) this
    · refine Rn.step (pc' := 65) rfl rfl ?_
      refine Rn.step (pc' := 68) rfl rfl ?_
      refine Rn.step (pc' := 39) rfl rfl ?_
      exact Rn.ls6 rfl rfl rfl rfl rfl (congrArg Value.int (im1 k)) (l_M_feet (y := y) ha hB6 k q (by omega) hd (by rw [hq.symm, ftG, if_neg h50]))
termination_by k
theorem c_M_feet {d P Bn Fn Wn K : Nat} {rl : xRl} (hi : LI P Bn Fn Wn s) (hv : v 24 = 0 ∨ v 24 = 1) (hru : mRu v A rl) (hK : s 150 = nI K) (hK10 : K ≤ 10) (hd : 8 ≤ d) (y : Int32) : Cl d j_M_feet [.ref 50, .int y] (MS m0 v dx A LA s) (fun r m2 => (gFe s y → r = some (.int (-3)) ∧ MG m0 v A s m2) ∧ (¬ gFe s y → r = some (.int (aFe (fbN (evf v rl Bn Fn Wn) s K (Bn + 1)) Bn y)) ∧ MG m0 v A s m2)) := by
  show Rn d j_M_feet 0 _ _ _ _
  refine Rn.step (pc' := 1) rfl rfl ?_
  refine Rn.vi (pc' := 4) rfl (by decide) (by omega) rfl rfl rfl (c_M_isLane) ?_
  refine Rn.ifp_eq (pc1 := 17) (pc2 := 7) rfl rfl rfl (fun h4 => ?_) (fun h4 => ?_)
  · refine Rn.iconst (v := (-3)) (pc' := 19) rfl (by decide) rfl ?_
    exact Rn.iret rfl (rfl) (⟨fun _ => ⟨rfl, MG.rfl _ _ _ _ _ _⟩, fun hg => absurd (Or.inl h4) hg⟩)
  · refine Rn.step (pc' := 8) rfl rfl ?_
    refine Rn.i2l (pc' := 9) rfl rfl ?_
    refine Rn.ldc2 (v := 0) (pc' := 10) rfl (by decide) rfl ?_
    refine Rn.ldc2 (v := 1) (pc' := 11) rfl (by decide) rfl ?_
    refine Rn.si (pc' := 14) rfl (by decide) (by omega) rfl rfl (c_M_inI y 0 1 rfl rfl) ?_
    refine Rn.ifp_ne (pc1 := 20) (pc2 := 17) rfl rfl rfl (fun h14 => ?_) (fun h14 => ?_)
    · obtain ⟨hl, hw⟩ := hi.lane h4
      have hb6 := hl.b6
      have ha : fbN (evf v rl Bn Fn Wn) s K (Bn + 1) < 128 := Nat.lt_of_lt_of_le (fbN_lt _ _ _ _) (p128 hl.b6)
      refine Rn.step (pc' := 21) rfl rfl ?_
      refine Rn.callV (pc' := 24) rfl (by decide) (by omega) rfl rfl rfl (c_M_feetBits (K := K) hl hw hv hru hK hK10 (by omega) (MG.rfl _ _ _ _ _ _)) (fun r_ m_ hc_ => ?_)
      obtain ⟨rfl, v3, dx3, A3, LA3, rfl, vs3, as3⟩ := hc_
      refine Rn.step (pc' := 25) rfl rfl ?_
      refine Rn.iconst (v := 0) (pc' := 26) rfl (by decide) rfl ?_
      refine Rn.step (pc' := 27) rfl rfl ?_
      refine Rn.iconst (v := (-2)) (pc' := 29) rfl (by decide) rfl ?_
      refine Rn.step (pc' := 31) rfl rfl ?_
      refine Rn.step (pc' := 32) rfl rfl ?_
      refine Rn.getf (pc' := 35) rfl rfl rfl rfl rfl ?_
      refine Rn.iconst (v := 2) (pc' := 36) rfl (by decide) rfl ?_
      refine Rn.sald (k := 2) (pc' := 37) rfl rfl (by simp only [nI_lit, nI_add, pk_mul]) (by omega) (by decide) rfl ?_
      refine Rn.step (pc' := 39) rfl rfl ?_
      rw [hl.b, ← nI_pred Bn]
      refine (l_M_feet (y := y) ha hl.b6 (Bn + 1) (0, -2) (by omega) (by omega) rfl).conseq ?_
      rintro r m2 ⟨rfl, rfl⟩
      exact ⟨fun hg => absurd hg (fun z => z.elim (fun c => c h4) (fun c => c h14)), fun _ => ⟨rfl, ⟨v3, dx3, A3, LA3, rfl, vs3, as3⟩⟩⟩
    · refine Rn.iconst (v := (-3)) (pc' := 19) rfl (by decide) rfl ?_
      exact Rn.iret rfl (rfl) (⟨fun _ => ⟨rfl, MG.rfl _ _ _ _ _ _⟩, fun hg => absurd (Or.inr (h14)) hg⟩)
end MH
