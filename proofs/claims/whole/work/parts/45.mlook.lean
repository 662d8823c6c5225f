/-! THE MODEL: look, cobbler. -/
section MI
variable {m0 : xM} {v : Nat → Int32} {dx : Int64} {A : Nat → Nat → Int32} {LA : Nat → Nat → Int64} {s : Nat → Int32}
/-- the most boots but one at a place, of the first k -/
def mMo (t : Nat → Int32) (sec p : Int32) : Nat → Int32
  | 0 => 0
  | k + 1 => if t (10 + 6 * k + 0) = p ∧ mMo t sec p k < mBM t sec (nI k) + 1 then mBM t sec (nI k) + 1 else mMo t sec p k
theorem mMo_s (t : Nat → Int32) (sec p : Int32) (k : Nat) : mMo t sec p (k + 1) = if t (10 + 6 * k + 0) = p ∧ mMo t sec p k < mBM t sec (nI k) + 1 then mBM t sec (nI k) + 1 else mMo t sec p k := rfl
/-- the row of a set's member, filled for the first p places -/
def fMo (f : Nat → Int32) (t : Nat → Int32) (sec : Int32) (Bn j p : Nat) : Nat → Int32 := fun i => if 10 * j ≤ i ∧ i < 10 * j + p then mMo t sec (nI (i - 10 * j)) Bn else f i
theorem fMo_s (f : Nat → Int32) (t : Nat → Int32) (sec : Int32) (Bn j p : Nat) : upd (fMo f t sec Bn j p) (10 * j + p) (mMo t sec (nI p) Bn) = fMo f t sec Bn j (p + 1) := by
  funext i
  by_cases h : i = 10 * j + p
  · subst h
    rw [upd_s]
    unfold fMo
    rw [if_pos (by omega), show 10 * j + p - 10 * j = p by omega]
  · rw [upd_n _ _ h]
    unfold fMo
    by_cases h2 : 10 * j ≤ i ∧ i < 10 * j + p
    · rw [if_pos h2, if_pos (by omega)]
    · rw [if_neg h2, if_neg (by omega)]
theorem fMo_0 (f : Nat → Int32) (t : Nat → Int32) (sec : Int32) (Bn j : Nat) : fMo f t sec Bn j 0 = f := by
  funext i
  unfold fMo
  rw [if_neg (by omega)]
theorem l_M_fM1 {d Bn : Nat} {x1 x2 : Value} {p : Int32} {Q : Option Value → xM → Prop} (hb : s 2 = nI Bn) (hB6 : Bn ≤ 6) (hd : 2 ≤ d) (k : Nat) (hk : k ≤ Bn) (hkk : Rn d j_M_fillsMost 84 [.ref 50, x1, x2, .int p, .int (mMo s (v 23) p Bn), .int (nI Bn)] [] (MS m0 v dx A LA s) Q) : Rn d j_M_fillsMost 33 [.ref 50, x1, x2, .int p, .int (mMo s (v 23) p k), .int (nI k)] [] (MS m0 v dx A LA s) Q := by
  refine Rn.step (pc' := 35) rfl rfl ?_
  refine Rn.step (pc' := 36) rfl rfl ?_
  refine Rn.getf (pc' := 39) rfl rfl rfl rfl rfl ?_
  refine Rn.iconst (v := 2) (pc' := 40) rfl (by decide) rfl ?_
  refine Rn.sald (k := 2) (pc' := 41) rfl rfl (by simp only [nI_lit, nI_add, pk_mul]) (by omega) (by decide) rfl ?_
  refine Rn.icmp_ge (pc1 := 84) (pc2 := 44) rfl rfl rfl (fun h41 => ?_) (fun h41 => ?_)
  · obtain rfl := nI_up (by omega) hk (hb ▸ h41)
    exact hkk
  · have hk2 := nI_dn (by omega) hk (hb ▸ h41)
    refine Rn.step (pc' := 45) rfl rfl ?_
    refine Rn.step (pc' := 47) rfl rfl ?_
    refine Rn.iconst (v := 0) (pc' := 48) rfl (by decide) rfl ?_
    refine Rn.vi (pc' := 51) rfl (by decide) (by omega) rfl rfl rfl (c_M_brotherOf k 0 (by omega)) ?_
    refine Rn.step (pc' := 52) rfl rfl ?_
    refine Rn.icmp_ne (pc1 := 78) (pc2 := 55) rfl rfl rfl (fun h52 => ?_) (fun h52 => ?_)
    · refine Rn.step (pc' := 81) rfl rfl ?_
      refine Rn.step (pc' := 33) rfl rfl ?_
      have e : mMo s (v 23) p (k + 1) = mMo s (v 23) p k := by rw [mMo_s, if_neg (fun z => h52 z.1)]
      have := l_M_fM1 hb hB6 hd (k + 1) (by omega) hkk
      rw [e, ← nI_i1 k] at this
      exact this
    · refine Rn.step (pc' := 56) rfl rfl ?_
      refine Rn.step (pc' := 58) rfl rfl ?_
      refine Rn.vi (pc' := 61) rfl (by decide) (by omega) rfl rfl rfl (c_M_bootsMany (by omega) (nI k)) ?_
      refine Rn.iconst (v := 1) (pc' := 62) rfl (by decide) rfl ?_
      refine Rn.iadd (pc' := 63) rfl rfl ?_
      refine Rn.step (pc' := 65) rfl rfl ?_
      refine Rn.icmp_le (pc1 := 78) (pc2 := 68) rfl rfl rfl (fun h65 => ?_) (fun h65 => ?_)
      · refine Rn.step (pc' := 81) rfl rfl ?_
        refine Rn.step (pc' := 33) rfl rfl ?_
        have e : mMo s (v 23) p (k + 1) = mMo s (v 23) p k := by rw [mMo_s, if_neg (fun z => Int32.not_lt.mpr h65 z.2)]
        have := l_M_fM1 hb hB6 hd (k + 1) (by omega) hkk
        rw [e, ← nI_i1 k] at this
        exact this
      · refine Rn.step (pc' := 69) rfl rfl ?_
        refine Rn.step (pc' := 71) rfl rfl ?_
        refine Rn.vi (pc' := 74) rfl (by decide) (by omega) rfl rfl rfl (c_M_bootsMany (by omega) (nI k)) ?_
        refine Rn.iconst (v := 1) (pc' := 75) rfl (by decide) rfl ?_
        refine Rn.iadd (pc' := 76) rfl rfl ?_
        refine Rn.step (pc' := 78) rfl rfl ?_
        refine Rn.step (pc' := 81) rfl rfl ?_
        refine Rn.step (pc' := 33) rfl rfl ?_
        have e : mMo s (v 23) p (k + 1) = mBM s (v 23) (nI k) + 1 := by rw [mMo_s, if_pos ⟨h52, Int32.not_le.mp h65⟩]
        have := l_M_fM1 hb hB6 hd (k + 1) (by omega) hkk
        rw [e, ← nI_i1 k] at this
        exact this
termination_by Bn - k
theorem l_M_fM {d Bn P j : Nat} {n2 : Int32} {t f : Nat → Int32} (hf : FX s t) (hb : t 2 = nI Bn) (hB6 : Bn ≤ 6) (hp : t 0 = nI P) (hP10 : P ≤ 10) (hj : j < 7) (hd : 2 ≤ d) (k : Nat) (hk : k ≤ P) (x4 x5 : Value) {m : xM} (hm : MU m0 v A t (fun _ _ B => (∀ i, i < 52 → B 62 i = s i) ∧ B 63 = fMo f t (v 23) Bn j k) m) : Rn d j_M_fillsMost 17 [.ref 50, .int (nI j - 1), .int n2, .int (nI k), x4, x5] [] m (fun r m2 => r = none ∧ MU m0 v A s (fun _ _ B => B 63 = fMo f t (v 23) Bn j P) m2) := by
  obtain ⟨v1, dx1, A1, LA1, rfl, vs1, as1, q62, q63⟩ := hm
  have h23 : v1 23 = v 23 := vs1 23 (by unfold scr; omega)
  refine Rn.step (pc' := 18) rfl rfl ?_
  refine Rn.step (pc' := 19) rfl rfl ?_
  refine Rn.getf (pc' := 22) rfl rfl rfl rfl rfl ?_
  refine Rn.iconst (v := 0) (pc' := 23) rfl (by decide) rfl ?_
  refine Rn.sald (k := 0) (pc' := 24) rfl rfl (by simp only [nI_lit, nI_add, pk_mul]) (by omega) (by decide) rfl ?_
  refine Rn.icmp_ge (pc1 := 105) (pc2 := 27) rfl rfl rfl (fun h24 => ?_) (fun h24 => ?_)
  · obtain rfl := nI_up (by omega) hk (hp ▸ h24)
    refine Rn.step (pc' := 106) rfl rfl ?_
    refine Rn.vv (pc' := 109) rfl (by decide) (by omega) rfl rfl rfl (c_M_laysBack) ?_
    exact Rn.vret rfl (⟨rfl, by
        rw [cpf_back2 hf q62]
        exact ⟨v1, dx1, A1, LA1, rfl, vs1, as1, q63⟩⟩)
  · have hk2 := nI_dn (by omega) hk (hp ▸ h24)
    refine Rn.iconst (v := 0) (pc' := 28) rfl (by decide) rfl ?_
    refine Rn.step (pc' := 30) rfl rfl ?_
    refine Rn.iconst (v := 0) (pc' := 31) rfl (by decide) rfl ?_
    refine Rn.step (pc' := 33) rfl rfl ?_
    refine l_M_fM1 (p := nI k) hb hB6 hd 0 (by omega) ?_
    refine Rn.step (pc' := 85) rfl rfl ?_
    refine Rn.getf (pc' := 88) rfl rfl rfl rfl rfl ?_
    refine Rn.iconst (v := 10) (pc' := 90) rfl (by decide) rfl ?_
    refine Rn.step (pc' := 91) rfl rfl ?_
    refine Rn.iconst (v := 1) (pc' := 92) rfl (by decide) rfl ?_
    refine Rn.iadd (pc' := 93) rfl rfl ?_
    refine Rn.imul (pc' := 94) rfl rfl ?_
    refine Rn.step (pc' := 95) rfl rfl ?_
    refine Rn.iadd (pc' := 96) rfl rfl ?_
    refine Rn.step (pc' := 98) rfl rfl ?_
    refine Rn.oast (k := 10 * j + k) (pc' := 99) rfl rfl (by decide) ((by rw [show nI j - 1 + 1 = nI j from Int32.sub_add_cancel _ _]; simp only [nI_lit, nI_add, pk_mul])) (by omega) (by decide) rfl ?_
    refine Rn.step (pc' := 102) rfl rfl ?_
    refine Rn.step (pc' := 17) rfl rfl ?_
    exact Rn.ls6 rfl rfl rfl (congrArg Value.int (nI_i1 k)) rfl rfl (l_M_fM hf hb hB6 hp hP10 hj hd (k + 1) (by omega) _ _ ⟨_, _, _, _, rfl, vs1, as_up as1 (show sca 63 by unfold sca; omega) _, q62, by
      rw [va_up_self, q63, h23]
      exact fMo_s _ _ _ _ _ _⟩)
termination_by P - k
theorem c_M_fillsMost {d P Bn Fn Wn N j : Nat} {rl : xRl} {f : Nat → Int32} (hl : WL P Bn Fn Wn s) (hw : WD P Bn s) (hv : v 24 = 0 ∨ v 24 = 1) (hru : mRu v A rl) (hd : 7 ≤ d) (hN : N < 1000) (hj : j < 7) (hj2 : nI j - 1 = -1 ∨ ∃ c, c < Bn ∧ nI j - 1 = nI c) {m : xM} (hm : MU m0 v A s (fun _ _ B => B 63 = f) m) : Cl d j_M_fillsMost [.ref 50, .int (nI j - 1), .int (nI N)] m (fun r m2 => r = none ∧ MU m0 v A s (fun _ _ B => B 63 = fMo f (oS (evf v rl Bn Fn Wn) (bgS s Bn (nI j - 1)) N) (v 23) Bn j P) m2) := by
  show Rn d j_M_fillsMost 0 _ _ _ _
  obtain ⟨v1, dx1, A1, LA1, rfl, vs1, as1, q63⟩ := hm
  have hfw := bgS_w hl hw hj2
  have hE := evf_eq vs1 rl Bn Fn Wn
  have hof := mPo_w (E := evf v1 rl Bn Fn Wn) 0 (hl.fx hfw.1) hfw.2 N
  refine Rn.step (pc' := 1) rfl rfl ?_
  refine Rn.vv (pc' := 4) rfl (by decide) (by omega) rfl rfl rfl (c_M_keeps) ?_
  refine Rn.step (pc' := 5) rfl rfl ?_
  refine Rn.step (pc' := 6) rfl rfl ?_
  refine Rn.vv (pc' := 9) rfl (by decide) (by omega) rfl rfl rfl (c_M_beginsBy (by omega) (nI j - 1) hl.b hl.b6) ?_
  refine Rn.step (pc' := 10) rfl rfl ?_
  refine Rn.step (pc' := 11) rfl rfl ?_
  refine Rn.callV (pc' := 14) rfl (by decide) (by omega) rfl rfl rfl (g_on (hl.fx hfw.1) hfw.2 (hv_g hv vs1) ((hru.g vs1 as1).a rfl rfl rfl rfl) (by omega) hN) (fun r_ m_ hc_ => ?_)
  obtain ⟨rfl, z3, x3, LA3, rfl⟩ := hc_
  refine Rn.step (pc' := 15) rfl rfl ?_
  refine Rn.iconst (v := 0) (pc' := 16) rfl (by decide) rfl ?_
  refine Rn.step (pc' := 17) rfl rfl ?_
  rw [hE] at hof ⊢
  exact l_M_fM (P := P) (hfw.1.trans hof.1) ((hl.fx hfw.1).fx hof.1).b hl.b6 ((hl.fx hfw.1).fx hof.1).p hl.p10 hj (by omega) 0 (by omega) _ _ ⟨_, _, _, _, rfl, vs_up (vs_up vs1 (by unfold scr; omega) _) (by unfold scr; omega) _, as_up as1 (by unfold sca; omega) _, cpf_lt, by
    rw [fMo_0]
    exact q63⟩
/-- how many of the first k in a set see v at a place, by their rows -/
def cnE (a : Nat) (M : Nat → Int32) (p : Nat) (vv : Int32) : Nat → Int32
  | 0 => 0
  | k + 1 => cnE a M p vv k + if a.testBit k = true ∧ M (10 * k + p) = vv then 1 else 0
theorem cnE_s (a : Nat) (M : Nat → Int32) (p : Nat) (vv : Int32) (k : Nat) : cnE a M p vv (k + 1) = cnE a M p vv k + if a.testBit k = true ∧ M (10 * k + p) = vv then 1 else 0 := rfl
def alE (a : Nat) (M : Nat → Int32) (p Bn : Nat) : Nat → Int32
  | 0 => 0
  | u + 1 => if alE a M p Bn u < cnE a M p (nI u) (Bn + 1) then cnE a M p (nI u) (Bn + 1) else alE a M p Bn u
theorem alE_s (a : Nat) (M : Nat → Int32) (p Bn u : Nat) : alE a M p Bn (u + 1) = if alE a M p Bn u < cnE a M p (nI u) (Bn + 1) then cnE a M p (nI u) (Bn + 1) else alE a M p Bn u := rfl
theorem l_M_al1 {d a Bn p : Nat} {x3 : Value} {vv : Int32} {Q : Option Value → xM → Prop} (ha : a < 128) (hb : s 2 = nI Bn) (hB6 : Bn ≤ 6) (hp : p < 10) (hd : 1 ≤ d) (k : Nat) (hk : k ≤ Bn + 1) (hkk : Rn d j_M_alikeAt 70 [.ref 50, .int (nI a), .int (nI p), x3, .int vv, .int (cnE a (A 63) p vv (Bn + 1)), .int (nI (Bn + 1))] [] (MS m0 v dx A LA s) Q) : Rn d j_M_alikeAt 17 [.ref 50, .int (nI a), .int (nI p), x3, .int vv, .int (cnE a (A 63) p vv k), .int (nI k)] [] (MS m0 v dx A LA s) Q := by
  refine Rn.step (pc' := 19) rfl rfl ?_
  refine Rn.step (pc' := 20) rfl rfl ?_
  refine Rn.getf (pc' := 23) rfl rfl rfl rfl rfl ?_
  refine Rn.iconst (v := 2) (pc' := 24) rfl (by decide) rfl ?_
  refine Rn.sald (k := 2) (pc' := 25) rfl rfl (by simp only [nI_lit, nI_add, pk_mul]) (by omega) (by decide) rfl ?_
  refine Rn.icmp_gt (pc1 := 70) (pc2 := 28) rfl rfl rfl (fun h25 => ?_) (fun h25 => ?_)
  · have hk3 : k = Bn + 1 := by
      have := (nI_ltI (a := Bn) (b := k) (by omega) (by omega)).mp (hb ▸ h25)
      omega
    subst hk3
    exact hkk
  · have hk2 : k < Bn + 1 := by
      have := mt (nI_ltI (a := Bn) (b := k) (by omega) (by omega)).mpr (hb ▸ h25)
      omega
    refine Rn.step (pc' := 30) rfl rfl ?_
    refine Rn.step (pc' := 31) rfl rfl ?_
    refine Rn.step (pc' := 33) rfl rfl ?_
    refine Rn.si (pc' := 36) rfl (by decide) (by omega) rfl rfl (c_M_isOf (m0 := MS m0 v dx A LA s) ha (show k < 7 by omega)) ?_
    refine Rn.ifp_eq (pc1 := 60) (pc2 := 39) rfl rfl rfl (fun h36 => ?_) (fun h36 => ?_)
    · refine Rn.iconst (v := 0) (pc' := 61) rfl (by decide) rfl ?_
      refine Rn.iadd (pc' := 62) rfl rfl ?_
      refine Rn.step (pc' := 64) rfl rfl ?_
      refine Rn.step (pc' := 67) rfl rfl ?_
      refine Rn.step (pc' := 17) rfl rfl ?_
      have e : cnE a (A 63) p vv (k + 1) = cnE a (A 63) p vv k + 0 := by rw [cnE_s, if_neg (fun z => h36 z.1)]
      have := l_M_al1 ha hb hB6 hp hd (k + 1) (by omega) hkk
      rw [e, ← nI_i1 k] at this
      exact this
    · refine Rn.step (pc' := 40) rfl rfl ?_
      refine Rn.getf (pc' := 43) rfl rfl rfl rfl rfl ?_
      refine Rn.iconst (v := 10) (pc' := 45) rfl (by decide) rfl ?_
      refine Rn.step (pc' := 47) rfl rfl ?_
      refine Rn.imul (pc' := 48) rfl rfl ?_
      refine Rn.step (pc' := 49) rfl rfl ?_
      refine Rn.iadd (pc' := 50) rfl rfl ?_
      refine Rn.oald (k := 10 * k + p) (pc' := 51) rfl rfl (by decide) (by simp only [nI_lit, nI_add, pk_mul]) (by omega) (by decide) rfl ?_
      refine Rn.step (pc' := 53) rfl rfl ?_
      refine Rn.icmp_ne (pc1 := 60) (pc2 := 56) rfl rfl rfl (fun h53 => ?_) (fun h53 => ?_)
      · refine Rn.iconst (v := 0) (pc' := 61) rfl (by decide) rfl ?_
        refine Rn.iadd (pc' := 62) rfl rfl ?_
        refine Rn.step (pc' := 64) rfl rfl ?_
        refine Rn.step (pc' := 67) rfl rfl ?_
        refine Rn.step (pc' := 17) rfl rfl ?_
        have e : cnE a (A 63) p vv (k + 1) = cnE a (A 63) p vv k + 0 := by rw [cnE_s, if_neg (fun z => h53 z.2)]
        have := l_M_al1 ha hb hB6 hp hd (k + 1) (by omega) hkk
        rw [e, ← nI_i1 k] at this
        exact this
      · refine Rn.iconst (v := 1) (pc' := 57) rfl (by decide) rfl ?_
        refine Rn.step (pc' := 61) rfl rfl ?_
        refine Rn.iadd (pc' := 62) rfl rfl ?_
        refine Rn.step (pc' := 64) rfl rfl ?_
        refine Rn.step (pc' := 67) rfl rfl ?_
        refine Rn.step (pc' := 17) rfl rfl ?_
        have e : cnE a (A 63) p vv (k + 1) = cnE a (A 63) p vv k + 1 := by rw [cnE_s, if_pos ⟨h36, h53⟩]
        have := l_M_al1 ha hb hB6 hp hd (k + 1) (by omega) hkk
        rw [e, ← nI_i1 k] at this
        exact this
termination_by Bn + 1 - k
theorem l_M_al2 {d a Bn p : Nat} (ha : a < 128) (hb : s 2 = nI Bn) (hB6 : Bn ≤ 6) (hp : p < 10) (hd : 1 ≤ d) (k : Nat) (hk : k ≤ 4) (x5 x6 : Value) : Rn d j_M_alikeAt 5 [.ref 50, .int (nI a), .int (nI p), .int (alE a (A 63) p Bn k), .int (nI k), x5, x6] [] (MS m0 v dx A LA s) (Pi (alE a (A 63) p Bn 4) (MS m0 v dx A LA s)) := by
  refine Rn.step (pc' := 7) rfl rfl ?_
  refine Rn.iconst (v := 4) (pc' := 8) rfl (by decide) rfl ?_
  refine Rn.icmp_ge (pc1 := 89) (pc2 := 11) rfl rfl rfl (fun h8 => ?_) (fun h8 => ?_)
  · obtain rfl := nI_up (by omega) hk h8
    refine Rn.step (pc' := 90) rfl rfl ?_
    exact Rn.reti rfl (rfl) (rfl) (rfl)
  · have hk2 := nI_dn (by omega) hk h8
    refine Rn.iconst (v := 0) (pc' := 12) rfl (by decide) rfl ?_
    refine Rn.step (pc' := 14) rfl rfl ?_
    refine Rn.iconst (v := 0) (pc' := 15) rfl (by decide) rfl ?_
    refine Rn.step (pc' := 17) rfl rfl ?_
    refine l_M_al1 (vv := nI k) ha hb hB6 hp hd 0 (by omega) ?_
    refine Rn.step (pc' := 72) rfl rfl ?_
    refine Rn.step (pc' := 73) rfl rfl ?_
    refine Rn.icmp_le (pc1 := 81) (pc2 := 76) rfl rfl rfl (fun h73 => ?_) (fun h73 => ?_)
    · refine Rn.step (pc' := 82) rfl rfl ?_
      refine Rn.step (pc' := 83) rfl rfl ?_
      refine Rn.step (pc' := 86) rfl rfl ?_
      refine Rn.step (pc' := 5) rfl rfl ?_
      have e : alE a (A 63) p Bn (k + 1) = alE a (A 63) p Bn k := by rw [alE_s, if_neg (Int32.not_lt.mpr h73)]
      have := l_M_al2 ha hb hB6 hp hd (k + 1) (by omega) (.int (cnE a (A 63) p (nI k) (Bn + 1))) (.int (nI (Bn + 1)))
      rw [e, ← nI_i1 k] at this
      exact this
    · refine Rn.step (pc' := 78) rfl rfl ?_
      refine Rn.step (pc' := 82) rfl rfl ?_
      refine Rn.step (pc' := 83) rfl rfl ?_
      refine Rn.step (pc' := 86) rfl rfl ?_
      refine Rn.step (pc' := 5) rfl rfl ?_
      have e : alE a (A 63) p Bn (k + 1) = cnE a (A 63) p (nI k) (Bn + 1) := by rw [alE_s, if_pos (Int32.not_le.mp h73)]
      have := l_M_al2 ha hb hB6 hp hd (k + 1) (by omega) (.int (cnE a (A 63) p (nI k) (Bn + 1))) (.int (nI (Bn + 1)))
      rw [e, ← nI_i1 k] at this
      exact this
termination_by 4 - k
theorem c_M_alikeAt {d : Nat} (hd : 1 ≤ d) {a Bn p : Nat} (ha : a < 128) (hb : s 2 = nI Bn) (hB6 : Bn ≤ 6) (hp : p < 10) : Cl d j_M_alikeAt [.ref 50, .int (nI a), .int (nI p)] (MS m0 v dx A LA s) (Pi (alE a (A 63) p Bn 4) (MS m0 v dx A LA s)) := by
  show Rn d j_M_alikeAt 0 _ _ _ _
  refine Rn.iconst (v := 0) (pc' := 1) rfl (by decide) rfl ?_
  refine Rn.step (pc' := 2) rfl rfl ?_
  refine Rn.iconst (v := 0) (pc' := 3) rfl (by decide) rfl ?_
  refine Rn.step (pc' := 5) rfl rfl ?_
  exact l_M_al2 ha hb hB6 hp hd 0 (by omega) _ _
/-- the rows of the first k, as look fills them -/
def lkM (E : xEv) (s : Nat → Int32) (a N P : Nat) (f : Nat → Int32) : Nat → Nat → Int32
  | 0 => f
  | k + 1 => if a.testBit k = true then fMo (lkM E s a N P f k) (oS E (bgS s E.Bn (nI k - 1)) N) E.sec E.Bn k P else lkM E s a N P f k
theorem lkM_s (E : xEv) (s : Nat → Int32) (a N P : Nat) (f : Nat → Int32) (k : Nat) : lkM E s a N P f (k + 1) = if a.testBit k = true then fMo (lkM E s a N P f k) (oS E (bgS s E.Bn (nI k - 1)) N) E.sec E.Bn k P else lkM E s a N P f k := rfl
/-- where to look, of the places 0 to k -/
def lkB (a : Nat) (M : Nat → Int32) (Bn : Nat) : Nat → Nat
  | 0 => 0
  | k + 1 => if alE a M (k + 1) Bn 4 < alE a M (lkB a M Bn k) Bn 4 then k + 1 else lkB a M Bn k
theorem lkB_s (a : Nat) (M : Nat → Int32) (Bn k : Nat) : lkB a M Bn (k + 1) = if alE a M (k + 1) Bn 4 < alE a M (lkB a M Bn k) Bn 4 then k + 1 else lkB a M Bn k := rfl
theorem lkB_le (a : Nat) (M : Nat → Int32) (Bn : Nat) : ∀ k, lkB a M Bn k ≤ k
  | 0 => Nat.le_refl _
  | k + 1 => by
    have := lkB_le a M Bn k
    rw [lkB_s]
    split <;> omega
def gLo (s : Nat → Int32) (x y : Int32) : Prop := ¬ 0 < s 0 ∨ ¬ (0 ≤ x ∧ x ≤ 47) ∨ ¬ (0 ≤ y ∧ y ≤ 1)
def aLo (a : Nat) (M : Nat → Int32) (Bn P : Nat) (y : Int32) : Int32 := if y = 0 then nI (lkB a M Bn (P - 1)) else alE a M (lkB a M Bn (P - 1)) Bn 4
theorem l_M_look2 {d a Bn P : Nat} {x1 : Value} {y : Int32} (ha : a < 128) (hb : s 2 = nI Bn) (hB6 : Bn ≤ 6) (hp : s 0 = nI P) (hP10 : 2 ≤ P ∧ P ≤ 10) (hd : 2 ≤ d) (k : Nat) (hk : k + 1 ≤ P) : Rn d j_M_look 87 [.ref 50, x1, .int y, .int (nI a), .int (nI (lkB a (A 63) Bn k)), .int (nI (k + 1))] [] (MS m0 v dx A LA s) (Pi (aLo a (A 63) Bn P y) (MS m0 v dx A LA s)) := by
  refine Rn.step (pc' := 89) rfl rfl ?_
  refine Rn.step (pc' := 90) rfl rfl ?_
  refine Rn.getf (pc' := 93) rfl rfl rfl rfl rfl ?_
  refine Rn.iconst (v := 0) (pc' := 94) rfl (by decide) rfl ?_
  refine Rn.sald (k := 0) (pc' := 95) rfl rfl (by simp only [nI_lit, nI_add, pk_mul]) (by omega) (by decide) rfl ?_
  refine Rn.icmp_ge (pc1 := 125) (pc2 := 98) rfl rfl rfl (fun h95 => ?_) (fun h95 => ?_)
  · have hk3 : k = P - 1 := by
      have := (nI_leI (a := P) (b := k + 1) (by omega) (by omega)).mp (hp ▸ h95)
      omega
    subst hk3
    refine Rn.step (pc' := 126) rfl rfl ?_
    refine Rn.ifc_ne (pc1 := 134) (pc2 := 129) rfl rfl rfl (fun h126 => ?_) (fun h126 => ?_)
    · refine Rn.step (pc' := 135) rfl rfl ?_
      refine Rn.step (pc' := 136) rfl rfl ?_
      refine Rn.step (pc' := 138) rfl rfl ?_
      refine Rn.vi (pc' := 141) rfl (by decide) (by omega) rfl rfl rfl (c_M_alikeAt (by omega) ha hb hB6 (show lkB a (A 63) Bn (P - 1) < 10 by have := lkB_le a (A 63) Bn (P - 1); omega)) ?_
      exact Rn.reti rfl (rfl) (by
          unfold aLo
          rw [if_neg h126]) (rfl)
    · refine Rn.step (pc' := 131) rfl rfl ?_
      refine Rn.step (pc' := 141) rfl rfl ?_
      exact Rn.reti rfl (rfl) (by
          unfold aLo
          rw [if_pos h126]) (rfl)
  · have hk2 : k + 1 < P := by
      have := mt (nI_leI (a := P) (b := k + 1) (by omega) (by omega)).mpr (hp ▸ h95)
      omega
    refine Rn.step (pc' := 99) rfl rfl ?_
    refine Rn.step (pc' := 100) rfl rfl ?_
    refine Rn.step (pc' := 102) rfl rfl ?_
    refine Rn.vi (pc' := 105) rfl (by decide) (by omega) rfl rfl rfl (c_M_alikeAt (by omega) ha hb hB6 (show k + 1 < 10 by omega)) ?_
    refine Rn.step (pc' := 106) rfl rfl ?_
    refine Rn.step (pc' := 107) rfl rfl ?_
    refine Rn.step (pc' := 109) rfl rfl ?_
    refine Rn.vi (pc' := 112) rfl (by decide) (by omega) rfl rfl rfl (c_M_alikeAt (by omega) ha hb hB6 (show lkB a (A 63) Bn k < 10 by have := lkB_le a (A 63) Bn k; omega)) ?_
    refine Rn.icmp_ge (pc1 := 119) (pc2 := 115) rfl rfl rfl (fun h112 => ?_) (fun h112 => ?_)
    · refine Rn.step (pc' := 122) rfl rfl ?_
      refine Rn.step (pc' := 87) rfl rfl ?_
      have e : lkB a (A 63) Bn (k + 1) = lkB a (A 63) Bn k := by rw [lkB_s, if_neg (Int32.not_lt.mpr h112)]
      have := l_M_look2 (x1 := x1) (y := y) ha hb hB6 hp hP10 hd (k + 1) (by omega)
      rw [e, ← nI_i1 (k + 1)] at this
      exact this
    · refine Rn.step (pc' := 117) rfl rfl ?_
      refine Rn.step (pc' := 119) rfl rfl ?_
      refine Rn.step (pc' := 122) rfl rfl ?_
      refine Rn.step (pc' := 87) rfl rfl ?_
      have e : lkB a (A 63) Bn (k + 1) = k + 1 := by rw [lkB_s, if_pos (Int32.not_le.mp h112)]
      have := l_M_look2 (x1 := x1) (y := y) ha hb hB6 hp hP10 hd (k + 1) (by omega)
      rw [e, ← nI_i1 (k + 1)] at this
      exact this
termination_by P - k
theorem l_M_look1 {d a P Bn Fn Wn N : Nat} {rl : xRl} {f : Nat → Int32} {y : Int32} (hl : WL P Bn Fn Wn s) (hw : WD P Bn s) (hv : v 24 = 0 ∨ v 24 = 1) (hru : mRu v A rl) (ha : a < 128) (hd : 8 ≤ d) (hN : N < 1000) (k : Nat) (hk : k ≤ Bn + 1) {x5 : Value} {m : xM} (hm : MU m0 v A s (fun _ _ B => B 63 = lkM (evf v rl Bn Fn Wn) s a N P f k) m) : Rn d j_M_look 46 [.ref 50, .int (nI N), .int y, .int (nI a), .int (nI k), x5] [] m (fun r m2 => r = some (.int (aLo a (lkM (evf v rl Bn Fn Wn) s a N P f (Bn + 1)) Bn P y)) ∧ MG m0 v A s m2) := by
  obtain ⟨v1, dx1, A1, LA1, rfl, vs1, as1, q63⟩ := hm
  have hb6 := hl.b6
  refine Rn.step (pc' := 48) rfl rfl ?_
  refine Rn.step (pc' := 49) rfl rfl ?_
  refine Rn.getf (pc' := 52) rfl rfl rfl rfl rfl ?_
  refine Rn.iconst (v := 2) (pc' := 53) rfl (by decide) rfl ?_
  refine Rn.sald (k := 2) (pc' := 54) rfl rfl (by simp only [nI_lit, nI_add, pk_mul]) (by omega) (by decide) rfl ?_
  refine Rn.icmp_gt (pc1 := 81) (pc2 := 57) rfl rfl rfl (fun h54 => ?_) (fun h54 => ?_)
  · have hk3 : k = Bn + 1 := by
      have := (nI_ltI (a := Bn) (b := k) (by omega) (by omega)).mp (hl.b ▸ h54)
      omega
    subst hk3
    refine Rn.iconst (v := 0) (pc' := 82) rfl (by decide) rfl ?_
    refine Rn.step (pc' := 84) rfl rfl ?_
    refine Rn.iconst (v := 1) (pc' := 85) rfl (by decide) rfl ?_
    refine Rn.step (pc' := 87) rfl rfl ?_
    rw [← q63]
    refine (l_M_look2 (y := y) ha hl.b hl.b6 hl.p ⟨hl.p2, hl.p10⟩ (by omega) 0 (by have := hl.p2; omega)).conseq ?_
    rintro r m2 ⟨rfl, rfl⟩
    exact ⟨rfl, v1, dx1, A1, LA1, rfl, vs1, as1⟩
  · have hk2 : k < Bn + 1 := by
      have := mt (nI_ltI (a := Bn) (b := k) (by omega) (by omega)).mpr (hl.b ▸ h54)
      omega
    have hb : nI k - 1 = -1 ∨ ∃ c, c < Bn ∧ nI k - 1 = nI c := by
      cases k with
      | zero => exact Or.inl nI_0m
      | succ c => exact Or.inr ⟨c, by omega, nI_pred c⟩
    refine Rn.step (pc' := 58) rfl rfl ?_
    refine Rn.step (pc' := 60) rfl rfl ?_
    refine Rn.si (pc' := 63) rfl (by decide) (by omega) rfl rfl (c_M_isOf (m0 := MS m0 v1 dx1 A1 LA1 s) ha (show k < 7 by omega)) ?_
    refine Rn.ifp_eq (pc1 := 75) (pc2 := 66) rfl rfl rfl (fun h63 => ?_) (fun h63 => ?_)
    · refine Rn.step (pc' := 78) rfl rfl ?_
      refine Rn.step (pc' := 46) rfl rfl ?_
      have e : lkM (evf v rl Bn Fn Wn) s a N P f (k + 1) = lkM (evf v rl Bn Fn Wn) s a N P f k := by rw [lkM_s, if_neg h63]
      have := l_M_look1 (y := y) (f := f) hl hw hv hru ha hd hN (k + 1) (by omega) (x5 := x5) ⟨v1, dx1, A1, LA1, rfl, vs1, as1, by
        rw [e]
        exact q63⟩
      rw [← nI_i1 k] at this
      exact this
    · refine Rn.step (pc' := 67) rfl rfl ?_
      refine Rn.step (pc' := 69) rfl rfl ?_
      refine Rn.iconst (v := 1) (pc' := 70) rfl (by decide) rfl ?_
      refine Rn.isub (pc' := 71) rfl rfl ?_
      refine Rn.step (pc' := 72) rfl rfl ?_
      refine Rn.callV (pc' := 75) rfl (by decide) (by omega) rfl rfl rfl (c_M_fillsMost hl hw hv hru (by omega) hN (by omega) hb ⟨v1, dx1, A1, LA1, rfl, vs1, as1, q63⟩) (fun r_ m_ hc_ => ?_)
      obtain ⟨rfl, v3, dx3, A3, LA3, rfl, vs3, as3, r63⟩ := hc_
      refine Rn.step (pc' := 78) rfl rfl ?_
      refine Rn.step (pc' := 46) rfl rfl ?_
      have e : lkM (evf v rl Bn Fn Wn) s a N P f (k + 1) = fMo (lkM (evf v rl Bn Fn Wn) s a N P f k) (oS (evf v rl Bn Fn Wn) (bgS s Bn (nI k - 1)) N) (v 23) Bn k P := by rw [lkM_s, if_pos h63]
      have := l_M_look1 (y := y) (f := f) hl hw hv hru ha hd hN (k + 1) (by omega) (x5 := x5) ⟨v3, dx3, A3, LA3, rfl, vs3, as3, by
        rw [e]
        exact r63⟩
      rw [← nI_i1 k] at this
      exact this
termination_by Bn + 1 - k
theorem c_M_look {d P Bn Fn Wn K : Nat} {rl : xRl} (hi : LI P Bn Fn Wn s) (hv : v 24 = 0 ∨ v 24 = 1) (hru : mRu v A rl) (hK : s 150 = nI K) (hK10 : K ≤ 10) (hd : 9 ≤ d) (x y : Int32) : Cl d j_M_look [.ref 50, .int x, .int y] (MS m0 v dx A LA s) (fun r m2 => (gLo s x y → r = some (.int (-1)) ∧ MG m0 v A s m2) ∧ (¬ gLo s x y → (fbN (evf v rl Bn Fn Wn) s K (Bn + 1) = 0 → r = some (.int (-2)) ∧ MG m0 v A s m2) ∧ (¬ fbN (evf v rl Bn Fn Wn) s K (Bn + 1) = 0 → ∃ f, r = some (.int (aLo (fbN (evf v rl Bn Fn Wn) s K (Bn + 1)) (lkM (evf v rl Bn Fn Wn) s (fbN (evf v rl Bn Fn Wn) s K (Bn + 1)) x.toNatClampNeg P f (Bn + 1)) Bn P y)) ∧ MG m0 v A s m2))) := by
  show Rn d j_M_look 0 _ _ _ _
  refine Rn.step (pc' := 1) rfl rfl ?_
  refine Rn.vi (pc' := 4) rfl (by decide) (by omega) rfl rfl rfl (c_M_isLane) ?_
  refine Rn.ifp_eq (pc1 := 29) (pc2 := 7) rfl rfl rfl (fun h4 => ?_) (fun h4 => ?_)
  · refine Rn.iconst (v := (-1)) (pc' := 30) rfl (by decide) rfl ?_
    exact Rn.iret rfl (rfl) (⟨fun _ => ⟨rfl, MG.rfl _ _ _ _ _ _⟩, fun hg => absurd (Or.inl h4) hg⟩)
  · refine Rn.step (pc' := 8) rfl rfl ?_
    refine Rn.i2l (pc' := 9) rfl rfl ?_
    refine Rn.ldc2 (v := 0) (pc' := 10) rfl (by decide) rfl ?_
    refine Rn.ldc2 (v := 47) (pc' := 13) rfl (by decide) rfl ?_
    refine Rn.si (pc' := 16) rfl (by decide) (by omega) rfl rfl (c_M_inI x 0 47 rfl rfl) ?_
    refine Rn.ifp_eq (pc1 := 29) (pc2 := 19) rfl rfl rfl (fun h16 => ?_) (fun h16 => ?_)
    · refine Rn.iconst (v := (-1)) (pc' := 30) rfl (by decide) rfl ?_
      exact Rn.iret rfl (rfl) (⟨fun _ => ⟨rfl, MG.rfl _ _ _ _ _ _⟩, fun hg => absurd (Or.inr (Or.inl h16)) hg⟩)
    · refine Rn.step (pc' := 20) rfl rfl ?_
      refine Rn.i2l (pc' := 21) rfl rfl ?_
      refine Rn.ldc2 (v := 0) (pc' := 22) rfl (by decide) rfl ?_
      refine Rn.ldc2 (v := 1) (pc' := 23) rfl (by decide) rfl ?_
      refine Rn.si (pc' := 26) rfl (by decide) (by omega) rfl rfl (c_M_inI y 0 1 rfl rfl) ?_
      refine Rn.ifp_ne (pc1 := 31) (pc2 := 29) rfl rfl rfl (fun h26 => ?_) (fun h26 => ?_)
      · obtain ⟨hl, hw⟩ := hi.lane h4
        obtain ⟨N, hN, rfl⟩ := xN (n := 47) (by decide) (by decide) h16
        have eN : (nI N).toNatClampNeg = N := nI_clamp (by omega)
        have hb6 := hl.b6
        have ha : fbN (evf v rl Bn Fn Wn) s K (Bn + 1) < 128 := Nat.lt_of_lt_of_le (fbN_lt _ _ _ _) (p128 hl.b6)
        refine Rn.step (pc' := 32) rfl rfl ?_
        refine Rn.callV (pc' := 35) rfl (by decide) (by omega) rfl rfl rfl (c_M_feetBits (K := K) hl hw hv hru hK hK10 (by omega) (MG.rfl _ _ _ _ _ _)) (fun r_ m_ hc_ => ?_)
        obtain ⟨rfl, v3, dx3, A3, LA3, rfl, vs3, as3⟩ := hc_
        refine Rn.step (pc' := 36) rfl rfl ?_
        refine Rn.step (pc' := 37) rfl rfl ?_
        refine Rn.ifc_ne (pc1 := 43) (pc2 := 40) rfl rfl rfl (fun h37 => ?_) (fun h37 => ?_)
        · refine Rn.iconst (v := 0) (pc' := 44) rfl (by decide) rfl ?_
          refine Rn.step (pc' := 46) rfl rfl ?_
          refine (l_M_look1 (y := y) (f := A3 63) hl hw hv hru ha (by omega) (by omega) 0 (by omega) ⟨v3, dx3, A3, LA3, rfl, vs3, as3, rfl⟩).conseq ?_
          rintro r m2 ⟨rfl, h9⟩
          exact ⟨fun hg => absurd hg (fun z => z.elim (fun c => c h4) (fun z => z.elim (fun c => c h16) (fun c => c h26))), fun _ => ⟨fun z => absurd (by rw [z]; rfl) h37, fun _ => ⟨A3 63, by rw [eN], h9⟩⟩⟩
        · refine Rn.iconst (v := (-2)) (pc' := 42) rfl (by decide) rfl ?_
          exact Rn.iret rfl (rfl) (⟨fun hg => absurd hg (fun z => z.elim (fun c => c h4) (fun z => z.elim (fun c => c h16) (fun c => c h26))), fun _ => ⟨fun _ => ⟨rfl, v3, dx3, A3, LA3, rfl, vs3, as3⟩, fun z => absurd ((nI_eq (b := 0) (by omega) (by omega)).mp h37) z⟩⟩)
      · refine Rn.iconst (v := (-1)) (pc' := 30) rfl (by decide) rfl ?_
        exact Rn.iret rfl (rfl) (⟨fun _ => ⟨rfl, MG.rfl _ _ _ _ _ _⟩, fun hg => absurd (Or.inr (Or.inr (h26))) hg⟩)
/-- what holes cost in the first k days -/
def hCs (sole worn ww f : Int32) : Nat → Int32
  | 0 => 0
  | k + 1 => hCs sole worn ww f k + if worn + nI (k + 1) * ww < sole then 0 else f
theorem hCs_s (sole worn ww f : Int32) (k : Nat) : hCs sole worn ww f (k + 1) = hCs sole worn ww f k + if worn + nI (k + 1) * ww < sole then 0 else f := rfl
theorem l_M_holesCost {d D : Nat} {worn ww f : Int32} (hD : D < 1000) (k : Nat) (hk : k ≤ D) : Rn d j_M_holesCost 6 [.ref 50, .int worn, .int (nI D), .int ww, .int f, .int (hCs (s 8) worn ww f k), .int (nI (k + 1))] [] (MS m0 v dx A LA s) (Pi (hCs (s 8) worn ww f D) (MS m0 v dx A LA s)) := by
  refine Rn.step (pc' := 8) rfl rfl ?_
  refine Rn.step (pc' := 9) rfl rfl ?_
  refine Rn.icmp_gt (pc1 := 45) (pc2 := 12) rfl rfl rfl (fun h9 => ?_) (fun h9 => ?_)
  · have hk3 : k = D := by
      have := (nI_ltI (a := D) (b := k + 1) (by omega) (by omega)).mp h9
      omega
    subst hk3
    refine Rn.step (pc' := 47) rfl rfl ?_
    exact Rn.reti rfl (rfl) (rfl) (rfl)
  · have hk2 : k < D := by
      have := mt (nI_ltI (a := D) (b := k + 1) (by omega) (by omega)).mpr h9
      omega
    refine Rn.step (pc' := 14) rfl rfl ?_
    refine Rn.step (pc' := 15) rfl rfl ?_
    refine Rn.step (pc' := 17) rfl rfl ?_
    refine Rn.step (pc' := 18) rfl rfl ?_
    refine Rn.imul (pc' := 19) rfl rfl ?_
    refine Rn.iadd (pc' := 20) rfl rfl ?_
    refine Rn.step (pc' := 21) rfl rfl ?_
    refine Rn.getf (pc' := 24) rfl rfl rfl rfl rfl ?_
    refine Rn.iconst (v := 8) (pc' := 26) rfl (by decide) rfl ?_
    refine Rn.sald (k := 8) (pc' := 27) rfl rfl (by simp only [nI_lit, nI_add, pk_mul]) (by omega) (by decide) rfl ?_
    refine Rn.icmp_lt (pc1 := 35) (pc2 := 30) rfl rfl rfl (fun h27 => ?_) (fun h27 => ?_)
    · refine Rn.iconst (v := 0) (pc' := 36) rfl (by decide) rfl ?_
      refine Rn.iadd (pc' := 37) rfl rfl ?_
      refine Rn.step (pc' := 39) rfl rfl ?_
      refine Rn.step (pc' := 42) rfl rfl ?_
      refine Rn.step (pc' := 6) rfl rfl ?_
      have e : hCs (s 8) worn ww f (k + 1) = hCs (s 8) worn ww f k + 0 := by rw [hCs_s, if_pos h27]
      have := l_M_holesCost (d := d) (worn := worn) (ww := ww) (f := f) hD (k + 1) (by omega)
      rw [e, ← nI_i1 (k + 1)] at this
      exact this
    · refine Rn.step (pc' := 32) rfl rfl ?_
      refine Rn.step (pc' := 36) rfl rfl ?_
      refine Rn.iadd (pc' := 37) rfl rfl ?_
      refine Rn.step (pc' := 39) rfl rfl ?_
      refine Rn.step (pc' := 42) rfl rfl ?_
      refine Rn.step (pc' := 6) rfl rfl ?_
      have e : hCs (s 8) worn ww f (k + 1) = hCs (s 8) worn ww f k + f := by rw [hCs_s, if_neg (Int32.not_lt.mpr (Int32.not_lt.mp h27))]
      have := l_M_holesCost (d := d) (worn := worn) (ww := ww) (f := f) hD (k + 1) (by omega)
      rw [e, ← nI_i1 (k + 1)] at this
      exact this
termination_by D - k
theorem c_M_holesCost {d : Nat} {D : Nat} (worn ww f : Int32) (hD : D < 1000) : Cl d j_M_holesCost [.ref 50, .int worn, .int (nI D), .int ww, .int f] (MS m0 v dx A LA s) (Pi (hCs (s 8) worn ww f D) (MS m0 v dx A LA s)) := by
  show Rn d j_M_holesCost 0 _ _ _ _
  refine Rn.iconst (v := 0) (pc' := 1) rfl (by decide) rfl ?_
  refine Rn.step (pc' := 3) rfl rfl ?_
  refine Rn.iconst (v := 1) (pc' := 4) rfl (by decide) rfl ?_
  refine Rn.step (pc' := 6) rfl rfl ?_
  exact l_M_holesCost hD 0 (by omega)
/-- the least from a cobbling at day dd on: of never more, and of the next j days -/
def inL (sole ww f : Int32) (C : Nat → Int32) (N dd : Nat) : Nat → Int32
  | 0 => hCs sole 0 ww f (N - dd)
  | j + 1 => if hCs sole 0 ww f (j + 1) + C (dd + 1 + j) < inL sole ww f C N dd j then hCs sole 0 ww f (j + 1) + C (dd + 1 + j) else inL sole ww f C N dd j
theorem inL_s (sole ww f : Int32) (C : Nat → Int32) (N dd j : Nat) : inL sole ww f C N dd (j + 1) = if hCs sole 0 ww f (j + 1) + C (dd + 1 + j) < inL sole ww f C N dd j then hCs sole 0 ww f (j + 1) + C (dd + 1 + j) else inL sole ww f C N dd j := rfl
/-- the costs from a cobbling on, of the last k days -/
def cFr (sole ww f c : Int32) (N : Nat) (C : Nat → Int32) : Nat → Nat → Int32
  | 0 => C
  | k + 1 => upd (cFr sole ww f c N C k) (N - 1 - k) (c + inL sole ww f (cFr sole ww f c N C k) N (N - 1 - k) k)
theorem cFr_s (sole ww f c : Int32) (N : Nat) (C : Nat → Int32) (k : Nat) : cFr sole ww f c N C (k + 1) = upd (cFr sole ww f c N C k) (N - 1 - k) (c + inL sole ww f (cFr sole ww f c N C k) N (N - 1 - k) k) := rfl
/-- the first cobbling and what all costs: of never, and of the last k days -/
def cbE (sole worn ww f : Int32) (C : Nat → Int32) (N : Nat) : Nat → Int32 × Int32
  | 0 => (-1, hCs sole worn ww f N)
  | k + 1 => if hCs sole worn ww f (N - 1 - k) + C (N - 1 - k) < (cbE sole worn ww f C N k).2 then (nI (N - 1 - k), hCs sole worn ww f (N - 1 - k) + C (N - 1 - k)) else cbE sole worn ww f C N k
theorem cbE_s (sole worn ww f : Int32) (C : Nat → Int32) (N k : Nat) : cbE sole worn ww f C N (k + 1) = if hCs sole worn ww f (N - 1 - k) + C (N - 1 - k) < (cbE sole worn ww f C N k).2 then (nI (N - 1 - k), hCs sole worn ww f (N - 1 - k) + C (N - 1 - k)) else cbE sole worn ww f C N k := rfl
def gCb (s : Nat → Int32) (x n ww c f y : Int32) : Prop := ¬ 0 < s 0 ∨ ¬ (0 ≤ x ∧ x ≤ 1) ∨ ¬ (1 ≤ n ∧ n ≤ 30) ∨ ¬ (0 ≤ ww ∧ ww ≤ 99) ∨ ¬ (0 ≤ c ∧ c ≤ 99) ∨ ¬ (0 ≤ f ∧ f ≤ 99) ∨ ¬ (0 ≤ y ∧ y ≤ 1)
theorem l_M_cb1 {d N dd : Nat} {x ww c f y : Int32} {C : Nat → Int32} {Q : Option Value → xM → Prop} (hN : N ≤ 30 ∧ 1 ≤ d) (hC : A 64 = C) (k : Nat) (hk : dd + 1 + k ≤ N) (x10 : Value) (hkk : ∀ x9 x10, Rn d j_M_cobbler 162 [.ref 50, .int x, .int (nI N), .int ww, .int c, .int f, .int y, .int (nI dd), .int (inL (s 8) ww f C N dd (N - 1 - dd)), x9, x10] [] (MS m0 v dx A LA s) Q) : Rn d j_M_cobbler 111 [.ref 50, .int x, .int (nI N), .int ww, .int c, .int f, .int y, .int (nI dd), .int (inL (s 8) ww f C N dd k), .int (nI (dd + 1 + k)), x10] [] (MS m0 v dx A LA s) Q := by
  refine Rn.step (pc' := 113) rfl rfl ?_
  refine Rn.step (pc' := 114) rfl rfl ?_
  refine Rn.icmp_ge (pc1 := 162) (pc2 := 117) rfl rfl rfl (fun h114 => ?_) (fun h114 => ?_)
  · have hk3 : dd + 1 + k = N := by
      have := (nI_leI (a := N) (b := dd + 1 + k) (by omega) (by omega)).mp h114
      omega
    obtain rfl : k = N - 1 - dd := by omega
    exact hkk _ _
  · have hk2 : dd + 1 + k < N := by
      have := mt (nI_leI (a := N) (b := dd + 1 + k) (by omega) (by omega)).mpr h114
      omega
    refine Rn.step (pc' := 118) rfl rfl ?_
    refine Rn.iconst (v := 0) (pc' := 119) rfl (by decide) rfl ?_
    refine Rn.step (pc' := 121) rfl rfl ?_
    refine Rn.step (pc' := 123) rfl rfl ?_
    refine Rn.isub (pc' := 124) rfl rfl ?_
    refine Rn.step (pc' := 125) rfl rfl ?_
    refine Rn.step (pc' := 127) rfl rfl ?_
    subst hC
    rw [show nI (dd + 1 + k) - nI dd = nI (k + 1) from (nI_sub (by omega) (by omega)).trans (by congr 1; omega)]
    refine Rn.vi (pc' := 130) rfl (by decide) (by omega) rfl rfl rfl (c_M_holesCost (D := k + 1) 0 ww f (by omega)) ?_
    refine Rn.step (pc' := 131) rfl rfl ?_
    refine Rn.getf (pc' := 134) rfl rfl rfl rfl rfl ?_
    refine Rn.step (pc' := 136) rfl rfl ?_
    refine Rn.oald (k := dd + 1 + k) (pc' := 137) rfl rfl (by decide) (rfl) (by omega) (by decide) rfl ?_
    refine Rn.iadd (pc' := 138) rfl rfl ?_
    refine Rn.step (pc' := 140) rfl rfl ?_
    refine Rn.step (pc' := 142) rfl rfl ?_
    refine Rn.step (pc' := 144) rfl rfl ?_
    refine Rn.icmp_ge (pc1 := 152) (pc2 := 147) rfl rfl rfl (fun h144 => ?_) (fun h144 => ?_)
    · refine Rn.step (pc' := 154) rfl rfl ?_
      refine Rn.step (pc' := 156) rfl rfl ?_
      refine Rn.step (pc' := 159) rfl rfl ?_
      refine Rn.step (pc' := 111) rfl rfl ?_
      have e : inL (s 8) ww f (A 64) N dd (k + 1) = inL (s 8) ww f (A 64) N dd k := by rw [inL_s, if_neg (Int32.not_lt.mpr h144)]
      have := l_M_cb1 (x := x) (y := y) (c := c) (ww := ww) (f := f) hN rfl (k + 1) (by omega) (.int (hCs (s 8) 0 ww f (k + 1) + A 64 (dd + 1 + k))) hkk
      rw [e, show dd + 1 + (k + 1) = (dd + 1 + k) + 1 from rfl, ← nI_i1 (dd + 1 + k)] at this
      exact this
    · refine Rn.step (pc' := 149) rfl rfl ?_
      refine Rn.step (pc' := 154) rfl rfl ?_
      refine Rn.step (pc' := 156) rfl rfl ?_
      refine Rn.step (pc' := 159) rfl rfl ?_
      refine Rn.step (pc' := 111) rfl rfl ?_
      have e : inL (s 8) ww f (A 64) N dd (k + 1) = hCs (s 8) 0 ww f (k + 1) + A 64 (dd + 1 + k) := by rw [inL_s, if_pos (Int32.not_le.mp h144)]
      have := l_M_cb1 (x := x) (y := y) (c := c) (ww := ww) (f := f) hN rfl (k + 1) (by omega) (.int (hCs (s 8) 0 ww f (k + 1) + A 64 (dd + 1 + k))) hkk
      rw [e, show dd + 1 + (k + 1) = (dd + 1 + k) + 1 from rfl, ← nI_i1 (dd + 1 + k)] at this
      exact this
termination_by N - k
theorem l_M_cb3 {d N b : Nat} {ww c f y : Int32} (hb : b < 2) (hN : N ≤ 30 ∧ 1 ≤ d) (k : Nat) (hk : k ≤ N) (x10 : Value) : Rn d j_M_cobbler 203 [.ref 50, .int (nI b), .int (nI N), .int ww, .int c, .int f, .int y, .int (cbE (s 8) (s (46 + 3 * b + 2)) ww f (A 64) N k).1, .int (cbE (s 8) (s (46 + 3 * b + 2)) ww f (A 64) N k).2, .int (nI (N - k) - 1), x10] [] (MS m0 v dx A LA s) (Pi (if y = 0 then (cbE (s 8) (s (46 + 3 * b + 2)) ww f (A 64) N N).2 else (cbE (s 8) (s (46 + 3 * b + 2)) ww f (A 64) N N).1) (MS m0 v dx A LA s)) := by
  by_cases hk3 : k = N
  · subst hk3
    rw [show nI (k - k) - 1 = -1 by rw [Nat.sub_self]; decide]
    refine Rn.step (pc' := 205) rfl rfl ?_
    refine Rn.ifc_lt (pc1 := 256) (pc2 := 208) rfl rfl rfl (fun h205 => ?_) (fun h205 => absurd (by decide) h205)
    refine Rn.step (pc' := 258) rfl rfl ?_
    refine Rn.ifc_ne (pc1 := 266) (pc2 := 261) rfl rfl rfl (fun h258 => ?_) (fun h258 => ?_)
    · refine Rn.step (pc' := 268) rfl rfl ?_
      exact Rn.reti rfl (rfl) (by rw [if_neg h258]) (rfl)
    · refine Rn.step (pc' := 263) rfl rfl ?_
      refine Rn.step (pc' := 268) rfl rfl ?_
      exact Rn.reti rfl (rfl) (by rw [if_pos h258]) (rfl)
  · have hk2 : k < N := by omega
    have e0 : nI (N - k) - 1 = nI (N - 1 - k) := (nI_sub (b := 1) (by omega) (by omega)).trans (by congr 1; omega)
    rw [e0]
    refine Rn.step (pc' := 205) rfl rfl ?_
    refine Rn.ifc_lt (pc1 := 256) (pc2 := 208) rfl rfl rfl (fun h205 => absurd h205 (nI_pos (by omega))) (fun h205 => ?_)
    refine Rn.step (pc' := 209) rfl rfl ?_
    refine Rn.step (pc' := 210) rfl rfl ?_
    refine Rn.step (pc' := 211) rfl rfl ?_
    refine Rn.vi (pc' := 214) rfl (by decide) (by omega) rfl rfl rfl (c_M_wornOf b (by omega)) ?_
    refine Rn.step (pc' := 216) rfl rfl ?_
    refine Rn.step (pc' := 217) rfl rfl ?_
    refine Rn.step (pc' := 219) rfl rfl ?_
    refine Rn.vi (pc' := 222) rfl (by decide) (by omega) rfl rfl rfl (c_M_holesCost (D := N - 1 - k) _ ww f (by omega)) ?_
    refine Rn.step (pc' := 223) rfl rfl ?_
    refine Rn.getf (pc' := 226) rfl rfl rfl rfl rfl ?_
    refine Rn.step (pc' := 228) rfl rfl ?_
    refine Rn.oald (k := N - 1 - k) (pc' := 229) rfl rfl (by decide) (rfl) (by omega) (by decide) rfl ?_
    refine Rn.iadd (pc' := 230) rfl rfl ?_
    refine Rn.step (pc' := 232) rfl rfl ?_
    refine Rn.step (pc' := 234) rfl rfl ?_
    refine Rn.step (pc' := 236) rfl rfl ?_
    refine Rn.icmp_lt (pc1 := 242) (pc2 := 239) rfl rfl rfl (fun h236 => ?_) (fun h236 => ?_)
    · refine Rn.step (pc' := 244) rfl rfl ?_
      refine Rn.step (pc' := 246) rfl rfl ?_
      refine Rn.step (pc' := 248) rfl rfl ?_
      refine Rn.step (pc' := 250) rfl rfl ?_
      refine Rn.step (pc' := 253) rfl rfl ?_
      refine Rn.step (pc' := 203) rfl rfl ?_
      have e : cbE (s 8) (s (46 + 3 * b + 2)) ww f (A 64) N (k + 1) = (nI (N - 1 - k), hCs (s 8) (s (46 + 3 * b + 2)) ww f (N - 1 - k) + A 64 (N - 1 - k)) := by rw [cbE_s, if_pos h236]
      have := l_M_cb3 (y := y) (c := c) (ww := ww) (f := f) hb hN (k + 1) (by omega) (.int (hCs (s 8) (s (46 + 3 * b + 2)) ww f (N - 1 - k) + A 64 (N - 1 - k)))
      rw [e, show N - (k + 1) = N - 1 - k by omega, ← im1 (N - 1 - k)] at this
      exact this
    · refine Rn.step (pc' := 250) rfl rfl ?_
      refine Rn.step (pc' := 253) rfl rfl ?_
      refine Rn.step (pc' := 203) rfl rfl ?_
      have e : cbE (s 8) (s (46 + 3 * b + 2)) ww f (A 64) N (k + 1) = cbE (s 8) (s (46 + 3 * b + 2)) ww f (A 64) N k := by rw [cbE_s, if_neg h236]
      have := l_M_cb3 (y := y) (c := c) (ww := ww) (f := f) hb hN (k + 1) (by omega) (.int (hCs (s 8) (s (46 + 3 * b + 2)) ww f (N - 1 - k) + A 64 (N - 1 - k)))
      rw [e, show N - (k + 1) = N - 1 - k by omega, ← im1 (N - 1 - k)] at this
      exact this
termination_by N - k
theorem l_M_cb2 {d N b : Nat} {ww c f y : Int32} {C : Nat → Int32} (hb : b < 2) (hN : N ≤ 30 ∧ 1 ≤ d) (k : Nat) (hk : k ≤ N) (x9 x10 : Value) {x8 : Value} {m : xM} (hm : MU m0 v A s (fun _ _ B => B 64 = cFr (s 8) ww f c N C k) m) : Rn d j_M_cobbler 86 [.ref 50, .int (nI b), .int (nI N), .int ww, .int c, .int f, .int y, .int (nI (N - k) - 1), x8, x9, x10] [] m (fun r m2 => r = some (.int (if y = 0 then (cbE (s 8) (s (46 + 3 * b + 2)) ww f (cFr (s 8) ww f c N C N) N N).2 else (cbE (s 8) (s (46 + 3 * b + 2)) ww f (cFr (s 8) ww f c N C N) N N).1)) ∧ MG m0 v A s m2) := by
  obtain ⟨v1, dx1, A1, LA1, rfl, vs1, as1, q64⟩ := hm
  by_cases hk3 : k = N
  · subst hk3
    rw [show nI (k - k) - 1 = -1 by rw [Nat.sub_self]; decide]
    refine Rn.step (pc' := 88) rfl rfl ?_
    refine Rn.ifc_lt (pc1 := 180) (pc2 := 91) rfl rfl rfl (fun h88 => ?_) (fun h88 => absurd (by decide) h88)
    refine Rn.iconst (v := (-1)) (pc' := 181) rfl (by decide) rfl ?_
    refine Rn.step (pc' := 183) rfl rfl ?_
    refine Rn.step (pc' := 184) rfl rfl ?_
    refine Rn.step (pc' := 185) rfl rfl ?_
    refine Rn.step (pc' := 186) rfl rfl ?_
    refine Rn.vi (pc' := 189) rfl (by decide) (by omega) rfl rfl rfl (c_M_wornOf b (by omega)) ?_
    refine Rn.step (pc' := 190) rfl rfl ?_
    refine Rn.step (pc' := 191) rfl rfl ?_
    refine Rn.step (pc' := 193) rfl rfl ?_
    refine Rn.vi (pc' := 196) rfl (by decide) (by omega) rfl rfl rfl (c_M_holesCost (D := k) _ ww f (by omega)) ?_
    refine Rn.step (pc' := 198) rfl rfl ?_
    refine Rn.step (pc' := 199) rfl rfl ?_
    refine Rn.iconst (v := 1) (pc' := 200) rfl (by decide) rfl ?_
    refine Rn.isub (pc' := 201) rfl rfl ?_
    refine Rn.step (pc' := 203) rfl rfl ?_
    rw [← q64]
    refine (l_M_cb3 (y := y) (c := c) (ww := ww) (f := f) hb hN 0 (by omega) _).conseq ?_
    rintro r m2 ⟨rfl, rfl⟩
    exact ⟨rfl, v1, dx1, A1, LA1, rfl, vs1, as1⟩
  · have hk2 : k < N := by omega
    have e0 : nI (N - k) - 1 = nI (N - 1 - k) := (nI_sub (b := 1) (by omega) (by omega)).trans (by congr 1; omega)
    rw [e0]
    refine Rn.step (pc' := 88) rfl rfl ?_
    refine Rn.ifc_lt (pc1 := 180) (pc2 := 91) rfl rfl rfl (fun h88 => absurd h88 (nI_pos (by omega))) (fun h88 => ?_)
    refine Rn.step (pc' := 92) rfl rfl ?_
    refine Rn.iconst (v := 0) (pc' := 93) rfl (by decide) rfl ?_
    refine Rn.step (pc' := 94) rfl rfl ?_
    refine Rn.step (pc' := 96) rfl rfl ?_
    refine Rn.isub (pc' := 97) rfl rfl ?_
    refine Rn.step (pc' := 98) rfl rfl ?_
    refine Rn.step (pc' := 100) rfl rfl ?_
    rw [show nI N - nI (N - 1 - k) = nI (N - (N - 1 - k)) from nI_sub (by omega) (by omega)]
    refine Rn.vi (pc' := 103) rfl (by decide) (by omega) rfl rfl rfl (c_M_holesCost (D := N - (N - 1 - k)) 0 ww f (by omega)) ?_
    refine Rn.step (pc' := 105) rfl rfl ?_
    refine Rn.step (pc' := 107) rfl rfl ?_
    refine Rn.iconst (v := 1) (pc' := 108) rfl (by decide) rfl ?_
    refine Rn.iadd (pc' := 109) rfl rfl ?_
    refine Rn.step (pc' := 111) rfl rfl ?_
    refine Rn.ls11 (b9 := .int (nI (N - 1 - k + 1 + 0))) (b10 := x10) rfl rfl rfl rfl rfl rfl rfl rfl rfl (congrArg Value.int (nI_1 _)) rfl ?_
    refine l_M_cb1 (C := A1 64) (dd := N - 1 - k) hN rfl 0 (by omega) _ (fun y9 y10 => ?_)
    refine Rn.step (pc' := 163) rfl rfl ?_
    refine Rn.getf (pc' := 166) rfl rfl rfl rfl rfl ?_
    refine Rn.step (pc' := 168) rfl rfl ?_
    refine Rn.step (pc' := 170) rfl rfl ?_
    refine Rn.step (pc' := 172) rfl rfl ?_
    refine Rn.iadd (pc' := 173) rfl rfl ?_
    refine Rn.oast (k := N - 1 - k) (pc' := 174) rfl rfl (by decide) (rfl) (by omega) (by decide) rfl ?_
    refine Rn.step (pc' := 177) rfl rfl ?_
    refine Rn.step (pc' := 86) rfl rfl ?_
    have := l_M_cb2 (y := y) (C := C) (ww := ww) (c := c) (f := f) hb hN (k + 1) (by omega) y9 y10 (x8 := .int (inL (s 8) ww f (A1 64) N (N - 1 - k) (N - 1 - (N - 1 - k)))) ⟨v1, dx1, _, LA1, rfl, vs1, as_up as1 (show sca 64 by unfold sca; omega) (upd (A1 64) (N - 1 - k) (c + inL (s 8) ww f (A1 64) N (N - 1 - k) (N - 1 - (N - 1 - k)))), by
      show va_up A1 64 _ 64 = _
      rw [va_up_self, cFr_s, q64, show N - 1 - (N - 1 - k) = k by omega]⟩
    rw [show N - (k + 1) = N - 1 - k by omega, ← im1 (N - 1 - k)] at this
    exact this
termination_by N - k
theorem c_M_cobbler {d : Nat} (hd : 2 ≤ d) (x n ww c f y : Int32) : Cl d j_M_cobbler [.ref 50, .int x, .int n, .int ww, .int c, .int f, .int y] (MS m0 v dx A LA s) (fun r m2 => (gCb s x n ww c f y → r = some (.int (-2)) ∧ MG m0 v A s m2) ∧ (¬ gCb s x n ww c f y → ∃ C, r = some (.int (if y = 0 then (cbE (s 8) (s (46 + 3 * x.toNatClampNeg + 2)) ww f (cFr (s 8) ww f c n.toNatClampNeg C n.toNatClampNeg) n.toNatClampNeg n.toNatClampNeg).2 else (cbE (s 8) (s (46 + 3 * x.toNatClampNeg + 2)) ww f (cFr (s 8) ww f c n.toNatClampNeg C n.toNatClampNeg) n.toNatClampNeg n.toNatClampNeg).1)) ∧ MG m0 v A s m2)) := by
  show Rn d j_M_cobbler 0 _ _ _ _
  refine Rn.step (pc' := 1) rfl rfl ?_
  refine Rn.vi (pc' := 4) rfl (by decide) (by omega) rfl rfl rfl (c_M_isLane) ?_
  refine Rn.ifp_eq (pc1 := 78) (pc2 := 7) rfl rfl rfl (fun h4 => ?_) (fun h4 => ?_)
  · refine Rn.iconst (v := (-2)) (pc' := 80) rfl (by decide) rfl ?_
    exact Rn.iret rfl (rfl) (⟨fun _ => ⟨rfl, MG.rfl _ _ _ _ _ _⟩, fun hg => absurd (Or.inl h4) hg⟩)
  · refine Rn.step (pc' := 8) rfl rfl ?_
    refine Rn.i2l (pc' := 9) rfl rfl ?_
    refine Rn.ldc2 (v := 0) (pc' := 10) rfl (by decide) rfl ?_
    refine Rn.ldc2 (v := 1) (pc' := 11) rfl (by decide) rfl ?_
    refine Rn.si (pc' := 14) rfl (by decide) (by omega) rfl rfl (c_M_inI x 0 1 rfl rfl) ?_
    refine Rn.ifp_eq (pc1 := 78) (pc2 := 17) rfl rfl rfl (fun h14 => ?_) (fun h14 => ?_)
    · refine Rn.iconst (v := (-2)) (pc' := 80) rfl (by decide) rfl ?_
      exact Rn.iret rfl (rfl) (⟨fun _ => ⟨rfl, MG.rfl _ _ _ _ _ _⟩, fun hg => absurd (Or.inr (Or.inl h14)) hg⟩)
    · refine Rn.step (pc' := 18) rfl rfl ?_
      refine Rn.i2l (pc' := 19) rfl rfl ?_
      refine Rn.ldc2 (v := 1) (pc' := 20) rfl (by decide) rfl ?_
      refine Rn.ldc2 (v := 30) (pc' := 23) rfl (by decide) rfl ?_
      refine Rn.si (pc' := 26) rfl (by decide) (by omega) rfl rfl (c_M_inI n 1 30 rfl rfl) ?_
      refine Rn.ifp_eq (pc1 := 78) (pc2 := 29) rfl rfl rfl (fun h26 => ?_) (fun h26 => ?_)
      · refine Rn.iconst (v := (-2)) (pc' := 80) rfl (by decide) rfl ?_
        exact Rn.iret rfl (rfl) (⟨fun _ => ⟨rfl, MG.rfl _ _ _ _ _ _⟩, fun hg => absurd (Or.inr (Or.inr (Or.inl h26))) hg⟩)
      · refine Rn.step (pc' := 30) rfl rfl ?_
        refine Rn.i2l (pc' := 31) rfl rfl ?_
        refine Rn.ldc2 (v := 0) (pc' := 32) rfl (by decide) rfl ?_
        refine Rn.ldc2 (v := 99) (pc' := 35) rfl (by decide) rfl ?_
        refine Rn.si (pc' := 38) rfl (by decide) (by omega) rfl rfl (c_M_inI ww 0 99 rfl rfl) ?_
        refine Rn.ifp_eq (pc1 := 78) (pc2 := 41) rfl rfl rfl (fun h38 => ?_) (fun h38 => ?_)
        · refine Rn.iconst (v := (-2)) (pc' := 80) rfl (by decide) rfl ?_
          exact Rn.iret rfl (rfl) (⟨fun _ => ⟨rfl, MG.rfl _ _ _ _ _ _⟩, fun hg => absurd (Or.inr (Or.inr (Or.inr (Or.inl h38)))) hg⟩)
        · refine Rn.step (pc' := 43) rfl rfl ?_
          refine Rn.i2l (pc' := 44) rfl rfl ?_
          refine Rn.ldc2 (v := 0) (pc' := 45) rfl (by decide) rfl ?_
          refine Rn.ldc2 (v := 99) (pc' := 48) rfl (by decide) rfl ?_
          refine Rn.si (pc' := 51) rfl (by decide) (by omega) rfl rfl (c_M_inI c 0 99 rfl rfl) ?_
          refine Rn.ifp_eq (pc1 := 78) (pc2 := 54) rfl rfl rfl (fun h51 => ?_) (fun h51 => ?_)
          · refine Rn.iconst (v := (-2)) (pc' := 80) rfl (by decide) rfl ?_
            exact Rn.iret rfl (rfl) (⟨fun _ => ⟨rfl, MG.rfl _ _ _ _ _ _⟩, fun hg => absurd (Or.inr (Or.inr (Or.inr (Or.inr (Or.inl h51))))) hg⟩)
          · refine Rn.step (pc' := 56) rfl rfl ?_
            refine Rn.i2l (pc' := 57) rfl rfl ?_
            refine Rn.ldc2 (v := 0) (pc' := 58) rfl (by decide) rfl ?_
            refine Rn.ldc2 (v := 99) (pc' := 61) rfl (by decide) rfl ?_
            refine Rn.si (pc' := 64) rfl (by decide) (by omega) rfl rfl (c_M_inI f 0 99 rfl rfl) ?_
            refine Rn.ifp_eq (pc1 := 78) (pc2 := 67) rfl rfl rfl (fun h64 => ?_) (fun h64 => ?_)
            · refine Rn.iconst (v := (-2)) (pc' := 80) rfl (by decide) rfl ?_
              exact Rn.iret rfl (rfl) (⟨fun _ => ⟨rfl, MG.rfl _ _ _ _ _ _⟩, fun hg => absurd (Or.inr (Or.inr (Or.inr (Or.inr (Or.inr (Or.inl h64)))))) hg⟩)
            · refine Rn.step (pc' := 69) rfl rfl ?_
              refine Rn.i2l (pc' := 70) rfl rfl ?_
              refine Rn.ldc2 (v := 0) (pc' := 71) rfl (by decide) rfl ?_
              refine Rn.ldc2 (v := 1) (pc' := 72) rfl (by decide) rfl ?_
              refine Rn.si (pc' := 75) rfl (by decide) (by omega) rfl rfl (c_M_inI y 0 1 rfl rfl) ?_
              refine Rn.ifp_ne (pc1 := 81) (pc2 := 78) rfl rfl rfl (fun h75 => ?_) (fun h75 => ?_)
              · obtain ⟨b, hb, rfl⟩ := x01 h14
                obtain ⟨N, hN, rfl⟩ := xN (n := 30) (by decide) (by decide) h26
                have eb : (nI b).toNatClampNeg = b := nI_clamp (by omega)
                have eN : (nI N).toNatClampNeg = N := nI_clamp (by omega)
                refine Rn.step (pc' := 82) rfl rfl ?_
                refine Rn.iconst (v := 1) (pc' := 83) rfl (by decide) rfl ?_
                refine Rn.isub (pc' := 84) rfl rfl ?_
                refine Rn.step (pc' := 86) rfl rfl ?_
                refine (l_M_cb2 (y := y) (C := A 64) hb ⟨hN, by omega⟩ 0 (by omega) _ _ ⟨v, dx, A, LA, rfl, fun _ _ => rfl, fun _ _ => rfl, rfl⟩).conseq ?_
                rintro r m2 ⟨rfl, h9⟩
                exact ⟨fun hg => absurd hg (fun z => z.elim (fun c => c h4) (fun z => z.elim (fun c => c h14) (fun z => z.elim (fun c => c h26) (fun z => z.elim (fun c => c h38) (fun z => z.elim (fun c => c h51) (fun z => z.elim (fun c => c h64) (fun c => c h75))))))), fun _ => ⟨A 64, by rw [eN, eb], h9⟩⟩
              · refine Rn.iconst (v := (-2)) (pc' := 80) rfl (by decide) rfl ?_
                exact Rn.iret rfl (rfl) (⟨fun _ => ⟨rfl, MG.rfl _ _ _ _ _ _⟩, fun hg => absurd (Or.inr (Or.inr (Or.inr (Or.inr (Or.inr (Or.inr (h75))))))) hg⟩)
end MI
