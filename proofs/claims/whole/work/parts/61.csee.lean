/-! THE CLASS: where to look next. -/
section CL0
variable {m0 : xM} {F I : Nat → Nat → Int32} {L : Nat → Nat → Int64} {R : Nat → Nat → Option Nat} {H : Value} {s w : Nat → Int32} {o : Nat} {gg : Prop}
theorem pm1 : ∀ B, B < 7 → ∀ k, k < 9 → (nI B ≤ nI k - 1 ↔ B + 1 ≤ k) := by decide +kernel
theorem mBM_in {s : Nat → Int32} {b : Nat} (hb : b < 6) : ∃ c, c ≤ 2 ∧ mBM s (-1) (nI b) = nI c := by
  have h : ¬ nI b = -1 := fun z => absurd (show nI b < 0 by rw [z]; exact neg1) (nI_pos (by omega))
  unfold mBM
  rw [if_neg h]
  split <;> split
  · exact ⟨2, by omega, by decide⟩
  · exact ⟨1, by omega, by decide⟩
  · exact ⟨1, by omega, by decide⟩
  · exact ⟨0, by omega, by decide⟩
theorem mMo_in {s : Nat → Int32} {p : Int32} : ∀ k, k ≤ 6 → ∃ c, c ≤ 3 ∧ mMo s (-1) p k = nI c
  | 0, _ => ⟨0, by omega, rfl⟩
  | k + 1, h => by
    rw [mMo_s]
    split
    · obtain ⟨c, h1, h2⟩ := mBM_in (s := s) (show k < 6 by omega)
      exact ⟨c + 1, by omega, by rw [h2, nI_1]⟩
    · exact mMo_in k (by omega)
/-- one more at what is seen at the first p places -/
def seeA (f : Nat → Int32) (mu : Nat → Nat) (p : Nat) : Nat → Int32 := fun i => if i < 4 * p ∧ i % 4 = mu (i / 4) then f i + 1 else f i
theorem seeA_s (f : Nat → Int32) (mu : Nat → Nat) {p : Nat} (h : mu p ≤ 3) : upd (seeA f mu p) (4 * p + mu p) (seeA f mu p (4 * p + mu p) + 1) = seeA f mu (p + 1) := by
  funext i
  by_cases e : i = 4 * p + mu p
  · subst e
    rw [upd_s]
    unfold seeA
    rw [if_neg (by omega), if_pos (by
      refine ⟨by omega, ?_⟩
      rw [show (4 * p + mu p) / 4 = p by omega]
      omega)]
  · rw [upd_n _ _ e]
    unfold seeA
    by_cases h2 : i < 4 * p ∧ i % 4 = mu (i / 4)
    · rw [if_pos h2, if_pos ⟨by omega, h2.2⟩]
    · rw [if_neg h2, if_neg (fun z => h2 ⟨?_, z.2⟩)]
      by_cases h3 : i < 4 * p
      · exact h3
      · have h4 : i / 4 = p := by omega
        rw [h4] at z
        omega
theorem seeA_0 (f : Nat → Int32) (mu : Nat → Nat) : seeA f mu 0 = f := by
  funext i
  exact if_neg (fun z => by omega)
theorem CW27 (A B : Nat → Int32) : CC m0 F (va_up (va_up (va_up I 27 A) (25 + 1) w) 27 B) L R H = CWm m0 F (va_up I 27 B) L R H 25 w := by
  unfold CWm
  rw [up_cm _ (show 25 + 1 ≠ 27 by decide), up_up]
theorem l_T_see1 {d Bn p : Nat} {A : Nat → Int32} {Q : Option Value → xM → Prop} (hr : WR gg Bn s w) (hb : F 17 10 = nI Bn) (hB : Bn ≤ 6) (hd : 1 ≤ d) (k : Nat) (hk : k ≤ Bn) (hkk : Rn d j_Trials_see 65 [.ref 24, .ref 17, .int (nI p), .int (mMo s (-1) (nI p) Bn), .int (nI Bn)] [] (CWm m0 F (va_up I 27 A) L R H 25 w) Q) : Rn d j_Trials_see 15 [.ref 24, .ref 17, .int (nI p), .int (mMo s (-1) (nI p) k), .int (nI k)] [] (CWm m0 F (va_up I 27 A) L R H 25 w) Q := by
  have ho : isW 25 := by unfold isW; omega
  refine Rn.step (pc' := 17) rfl rfl ?_
  refine Rn.step (pc' := 18) rfl rfl ?_
  refine Rn.getf (pc' := 21) rfl rfl rfl rfl rfl ?_
  refine Rn.icmp_ge (pc1 := 65) (pc2 := 24) rfl rfl rfl (fun h21 => ?_) (fun h21 => ?_)
  · obtain rfl := nI_up (by omega) hk (by rw [hb] at h21; exact h21)
    exact hkk
  · have hk2 := nI_dn (by omega) hk (by rw [hb] at h21; exact h21)
    refine Rn.step (pc' := 25) rfl rfl ?_
    refine Rn.getf (pc' := 28) rfl rfl rfl rfl rfl ?_
    refine Rn.getf (pc' := 31) rfl rfl rfl rfl rfl ?_
    refine Rn.iconst (v := 0) (pc' := 32) rfl (by decide) rfl ?_
    refine Rn.step (pc' := 34) rfl rfl ?_
    refine Rn.iadd (pc' := 35) rfl rfl ?_
    refine Rn.cwld (k := k) (pc' := 36) rfl ho (by simp only [nI_lit, nI_add, pk_mul, Nat.zero_add]) (by omega) (hr.pl k hk2) (by decide) rfl ?_
    refine Rn.step (pc' := 37) rfl rfl ?_
    refine Rn.icmp_ne (pc1 := 59) (pc2 := 40) rfl rfl rfl (fun h37 => ?_) (fun h37 => ?_)
    · refine Rn.step (pc' := 62) rfl rfl ?_
      refine Rn.step (pc' := 15) rfl rfl ?_
      have e : mMo s (-1) (nI p) (k + 1) = mMo s (-1) (nI p) k := by rw [mMo_s, if_neg (fun z => h37 z.1)]
      exact Rn.ls5 rfl rfl rfl (congrArg Value.int e.symm) (congrArg Value.int (nI_i1 k)) (l_T_see1 hr hb hB hd (k + 1) (by omega) hkk)
    · refine Rn.step (pc' := 41) rfl rfl ?_
      refine Rn.iconst (v := 1) (pc' := 42) rfl (by decide) rfl ?_
      refine Rn.step (pc' := 43) rfl rfl ?_
      refine Rn.getf (pc' := 46) rfl rfl rfl rfl rfl ?_
      refine Rn.step (pc' := 48) rfl rfl ?_
      refine Rn.vi (pc' := 51) rfl (by decide) (by omega) rfl rfl rfl (c_W_bootBitsOf (o := 25) (by unfold isW; omega) hr (nI k)) ?_
      refine Rn.si (pc' := 54) rfl (by decide) (by omega) rfl rfl (c_bitCount _) ?_
      refine Rn.iadd (pc' := 55) rfl rfl ?_
      refine Rn.si (pc' := 58) rfl (by decide) (by omega) rfl rfl (c_max _ _) ?_
      refine Rn.step (pc' := 59) rfl rfl ?_
      refine Rn.step (pc' := 62) rfl rfl ?_
      refine Rn.step (pc' := 15) rfl rfl ?_
      have e : mMo s (-1) (nI p) (k + 1) = (if mMo s (-1) (nI p) k < 1 + bcF (mB1 s (nI k)) then 1 + bcF (mB1 s (nI k)) else mMo s (-1) (nI p) k) := by
        rw [mMo_s, bc_M (by omega), Int32.add_comm 1]
        by_cases z : mMo s (-1) (nI p) k < mBM s (-1) (nI k) + 1
        · rw [if_pos ⟨h37, z⟩, if_pos z]
        · rw [if_neg (fun y => z y.2), if_neg z]
      exact Rn.ls5 rfl rfl rfl (congrArg Value.int e.symm) (congrArg Value.int (nI_i1 k)) (l_T_see1 hr hb hB hd (k + 1) (by omega) hkk)
termination_by Bn - k
theorem l_T_see {d Bn P : Nat} {A : Nat → Int32} {mu : Nat → Nat} (hr : WR gg Bn s w) (hb : F 17 10 = nI Bn) (hB : Bn ≤ 6) (hp : F 17 6 = nI P) (hP : P ≤ 10) (hmuE : ∀ k, mu k = (mMo s (-1) (nI k) Bn).toNatClampNeg) (hd : 1 ≤ d) (k : Nat) (hk : k ≤ P) (x3 x4 : Value) : Rn d j_Trials_see 2 [.ref 24, .ref 17, .int (nI k), x3, x4] [] (CWm m0 F (va_up I 27 (seeA A mu k)) L R H 25 w) (Pv (CWm m0 F (va_up I 27 (seeA A mu P)) L R H 25 w)) := by
  refine Rn.step (pc' := 3) rfl rfl ?_
  refine Rn.step (pc' := 4) rfl rfl ?_
  refine Rn.getf (pc' := 7) rfl rfl rfl rfl rfl ?_
  refine Rn.icmp_ge (pc1 := 85) (pc2 := 10) rfl rfl rfl (fun h7 => ?_) (fun h7 => ?_)
  · obtain rfl := nI_up (by omega) hk (by rw [hp] at h7; exact h7)
    exact Rn.vret rfl (⟨rfl, rfl⟩)
  · have hk2 := nI_dn (by omega) hk (by rw [hp] at h7; exact h7)
    refine Rn.iconst (v := 0) (pc' := 11) rfl (by decide) rfl ?_
    refine Rn.step (pc' := 12) rfl rfl ?_
    refine Rn.iconst (v := 0) (pc' := 13) rfl (by decide) rfl ?_
    refine Rn.step (pc' := 15) rfl rfl ?_
    refine l_T_see1 (p := k) hr hb hB hd 0 (by omega) ?_
    obtain ⟨c, hc1, hc2⟩ := mMo_in (s := s) (p := nI k) Bn hB
    have hmu : mu k = c := by rw [hmuE k, hc2, nI_clamp (by omega)]
    rw [hc2]
    refine Rn.step (pc' := 66) rfl rfl ?_
    refine Rn.getf (pc' := 69) rfl rfl rfl rfl rfl ?_
    refine Rn.step (pc' := 70) rfl rfl ?_
    refine Rn.iconst (v := 4) (pc' := 71) rfl (by decide) rfl ?_
    refine Rn.imul (pc' := 72) rfl rfl ?_
    refine Rn.step (pc' := 73) rfl rfl ?_
    refine Rn.iadd (pc' := 74) rfl rfl ?_
    refine Rn.step (pc' := 75) rfl rfl ?_
    refine Rn.cald (k := 4 * k + c) (pc' := 76) rfl rfl (by rw [Int32.mul_comm]; simp only [nI_lit, nI_add, pk_mul]) (by omega) ((congrFun (up_ne _ w (show 27 ≠ 25 + 1 by decide)) _).trans (congrFun (va_up_self I 27 _) _)) (by decide) rfl ?_
    refine Rn.iconst (v := 1) (pc' := 77) rfl (by decide) rfl ?_
    refine Rn.iadd (pc' := 78) rfl rfl ?_
    refine Rn.cast (k := 4 * k + c) (pc' := 79) rfl rfl (by rw [Int32.mul_comm]; simp only [nI_lit, nI_add, pk_mul]) (by omega) (by decide) rfl ?_
    refine Rn.step (pc' := 82) rfl rfl ?_
    refine Rn.step (pc' := 2) rfl rfl ?_
    rw [up_ne _ w (show 27 ≠ 25 + 1 by decide), va_up_self, CW27, ← hmu, seeA_s A mu (by omega)]
    exact Rn.ls5 rfl rfl (congrArg Value.int (nI_i1 k)) rfl rfl (l_T_see hr hb hB hp hP hmuE hd (k + 1) (by omega) _ _)
termination_by P - k
theorem c_T_see {d Bn P : Nat} {A : Nat → Int32} (hr : WR gg Bn s w) (hb : F 17 10 = nI Bn) (hB : Bn ≤ 6) (hp : F 17 6 = nI P) (hP : P ≤ 10) (hd : 1 ≤ d) : Cl d j_Trials_see [.ref 24, .ref 17] (CWm m0 F (va_up I 27 A) L R H 25 w) (Pv (CWm m0 F (va_up I 27 (seeA A (fun k => (mMo s (-1) (nI k) Bn).toNatClampNeg) P)) L R H 25 w)) := by
  refine Rn.mm (m2 := CWm m0 F (va_up I 27 (seeA A (fun k => (mMo s (-1) (nI k) Bn).toNatClampNeg) 0)) L R H 25 w) (by rw [seeA_0]) ?_
  show Rn d j_Trials_see 0 _ _ _ _
  refine Rn.iconst (v := 0) (pc' := 1) rfl (by decide) rfl ?_
  refine Rn.step (pc' := 2) rfl rfl ?_
  exact l_T_see hr hb hB hp hP (fun _ => rfl) hd 0 (by omega) _ _
/-- what each would see at each place, in one row -/
def mem0 (E : xEv) (s : Nat → Int32) (N : Nat) : Nat → Int32 := fun i => mMo (oS E (bgS s E.Bn (nI (i / 10) - 1)) N) (-1) (nI (i % 10)) E.Bn
theorem cnE_in (a : Nat) (M : Nat → Int32) (p : Nat) (v : Int32) : ∀ k, ∃ c, c ≤ k ∧ cnE a M p v k = nI c
  | 0 => ⟨0, by omega, rfl⟩
  | k + 1 => by
    obtain ⟨c, h1, h2⟩ := cnE_in a M p v k
    rw [cnE_s, h2]
    split
    · exact ⟨c + 1, by omega, nI_1 c⟩
    · exact ⟨c, by omega, Int32.add_zero _⟩
theorem alE_in (a : Nat) (M : Nat → Int32) (p Bn : Nat) : ∀ u, ∃ c, c ≤ Bn + 1 ∧ alE a M p Bn u = nI c
  | 0 => ⟨0, by omega, rfl⟩
  | u + 1 => by
    rw [alE_s]
    split
    · exact cnE_in a M p (nI u) (Bn + 1)
    · exact alE_in a M p Bn u
theorem cnE_cg {a : Nat} {M M2 : Nat → Int32} {p : Nat} {v : Int32} : ∀ k, (∀ j, j < k → a.testBit j = true → M (10 * j + p) = M2 (10 * j + p)) → cnE a M p v k = cnE a M2 p v k
  | 0, _ => rfl
  | k + 1, h => by
    rw [cnE_s, cnE_s, cnE_cg k (fun j hj => h j (by omega))]
    by_cases e : a.testBit k = true
    · rw [h k (by omega) e]
    · rw [if_neg (fun z => e z.1), if_neg (fun z => e z.1)]
theorem alE_cg {a : Nat} {M M2 : Nat → Int32} {p Bn : Nat} (h : ∀ j, j < Bn + 1 → a.testBit j = true → M (10 * j + p) = M2 (10 * j + p)) : ∀ u, alE a M p Bn u = alE a M2 p Bn u
  | 0 => rfl
  | u + 1 => by rw [alE_s, alE_s, alE_cg h u, cnE_cg (Bn + 1) h]
theorem lkB_cg {a : Nat} {M M2 : Nat → Int32} {Bn P : Nat} (h : ∀ p, p < P → ∀ j, j < Bn + 1 → a.testBit j = true → M (10 * j + p) = M2 (10 * j + p)) : ∀ k, k < P → lkB a M Bn k = lkB a M2 Bn k
  | 0, _ => rfl
  | k + 1, hk => by
    have ih := lkB_cg h k (by omega)
    have h1 := lkB_le a M2 Bn k
    rw [lkB_s, lkB_s, ih, alE_cg (h (k + 1) hk), alE_cg (h (lkB a M2 Bn k) (by omega))]
theorem lkM_at {E : xEv} {s : Nat → Int32} {a N P : Nat} {f : Nat → Int32} (hP : P ≤ 10) (hs : E.sec = -1) : ∀ k, ∀ j p, j < k → p < P → a.testBit j = true → lkM E s a N P f k (10 * j + p) = mem0 E s N (10 * j + p)
  | 0, j, p, hj, _, _ => absurd hj (by omega)
  | k + 1, j, p, hj, hp, hb => by
    rw [lkM_s]
    by_cases e : j = k
    · subst e
      rw [if_pos hb]
      unfold fMo mem0
      rw [if_pos (by omega), hs, show 10 * j + p - 10 * j = p by omega, show (10 * j + p) / 10 = j by omega, show (10 * j + p) % 10 = p by omega]
    · have ih := lkM_at (s := s) (N := N) (f := f) hP hs k j p (by omega) hp hb
      split
      · unfold fMo
        rw [if_neg (by omega)]
        exact ih
      · exact ih
theorem l_T_fw1 {d P N a p : Nat} {E : xEv} {A : Nat → Int32} {x2 x3 : Value} {fw : Int32} {Q : Option Value → xM → Prop} (hA : ∀ p, p < P → ∀ v, v < 4 → A (4 * p + v) = cnE a (mem0 E s N) p (nI v) (E.Bn + 1)) (hp : p < P) (hP : P ≤ 10) (hd : 1 ≤ d) (k : Nat) (hk : k ≤ 4) (hkk : Rn d j_Trials_fewestAlike 132 [.ref 24, .ref 14, x2, x3, .int fw, .int (nI p), .int (alE a (mem0 E s N) p E.Bn 4), .int (nI 4)] [] (CC m0 F (va_up I 27 A) L R H) Q) : Rn d j_Trials_fewestAlike 101 [.ref 24, .ref 14, x2, x3, .int fw, .int (nI p), .int (alE a (mem0 E s N) p E.Bn k), .int (nI k)] [] (CC m0 F (va_up I 27 A) L R H) Q := by
  refine Rn.step (pc' := 103) rfl rfl ?_
  refine Rn.iconst (v := 4) (pc' := 104) rfl (by decide) rfl ?_
  refine Rn.icmp_ge (pc1 := 132) (pc2 := 107) rfl rfl rfl (fun h104 => ?_) (fun h104 => ?_)
  · obtain rfl := nI_up (by omega) hk h104
    exact hkk
  · have hk2 := nI_dn (by omega) hk h104
    refine Rn.step (pc' := 109) rfl rfl ?_
    refine Rn.step (pc' := 110) rfl rfl ?_
    refine Rn.getf (pc' := 113) rfl rfl rfl rfl rfl ?_
    refine Rn.step (pc' := 115) rfl rfl ?_
    refine Rn.iconst (v := 4) (pc' := 116) rfl (by decide) rfl ?_
    refine Rn.imul (pc' := 117) rfl rfl ?_
    refine Rn.step (pc' := 119) rfl rfl ?_
    refine Rn.iadd (pc' := 120) rfl rfl ?_
    refine Rn.cald (k := 4 * p + k) (pc' := 121) rfl rfl (by rw [Int32.mul_comm]; simp only [nI_lit, nI_add, pk_mul]) (by omega) ((congrFun (va_up_self I 27 A) _).trans (hA p hp k hk2)) (by decide) rfl ?_
    refine Rn.si (pc' := 124) rfl (by decide) (by omega) rfl rfl (c_max _ _) ?_
    refine Rn.step (pc' := 126) rfl rfl ?_
    refine Rn.step (pc' := 129) rfl rfl ?_
    refine Rn.step (pc' := 101) rfl rfl ?_
    exact Rn.ls8 rfl rfl rfl rfl rfl rfl (congrArg Value.int (by rw [alE_s])) (congrArg Value.int (nI_i1 k)) (l_T_fw1 hA hp hP hd (k + 1) (by omega) hkk)
termination_by 4 - k
set_option maxHeartbeats 4000000 in
theorem l_T_fw {F : Nat → Nat → Int32} {d P N a : Nat} {E : xEv} {A : Nat → Int32} {i2 i3 fw : Int32} (hA : ∀ p, p < P → ∀ v, v < 4 → A (4 * p + v) = cnE a (mem0 E s N) p (nI v) (E.Bn + 1)) (hp0 : F 17 6 = nI P) (hP10 : P ≤ 10) (hB6 : E.Bn ≤ 6 ∧ 1 ≤ P) (hd : 1 ≤ d) (k : Nat) (hk : k ≤ P) (hst : (k = 0 ∧ fw = 8) ∨ (0 < k ∧ fw = alE a (mem0 E s N) (lkB a (mem0 E s N) E.Bn (k - 1)) E.Bn 4 ∧ F 24 3 = nI (lkB a (mem0 E s N) E.Bn (k - 1)))) (x6 x7 : Value) : Rn d j_Trials_fewestAlike 83 [.ref 24, .ref 14, .int i2, .int i3, .int fw, .int (nI k), x6, x7] [] (CC m0 F (va_up I 27 A) L R H) (fun r m2 => r = some (.int (alE a (mem0 E s N) (lkB a (mem0 E s N) E.Bn (P - 1)) E.Bn 4)) ∧ ∃ F1, m2 = CC m0 F1 (va_up I 27 A) L R H ∧ (∀ k, k ≠ 24 → F1 k = F k) ∧ F1 24 3 = nI (lkB a (mem0 E s N) E.Bn (P - 1))) := by
  refine Rn.step (pc' := 85) rfl rfl ?_
  refine Rn.step (pc' := 86) rfl rfl ?_
  refine Rn.getf (pc' := 89) rfl rfl rfl rfl rfl ?_
  refine Rn.getf (pc' := 92) rfl rfl rfl rfl rfl ?_
  refine Rn.icmp_ge (pc1 := 155) (pc2 := 95) rfl rfl rfl (fun h92 => ?_) (fun h92 => ?_)
  · obtain rfl := nI_up (by omega) hk (by rw [hp0] at h92; exact h92)
    obtain ⟨e1, e2⟩ := (hst.resolve_left (fun z => by omega)).2
    refine Rn.step (pc' := 157) rfl rfl ?_
    exact Rn.iret rfl (rfl) (⟨by rw [e1], F, rfl, fun _ _ => rfl, e2⟩)
  · have hk2 := nI_dn (by omega) hk (by rw [hp0] at h92; exact h92)
    refine Rn.iconst (v := 0) (pc' := 96) rfl (by decide) rfl ?_
    refine Rn.step (pc' := 98) rfl rfl ?_
    refine Rn.iconst (v := 0) (pc' := 99) rfl (by decide) rfl ?_
    refine Rn.step (pc' := 101) rfl rfl ?_
    refine l_T_fw1 hA hk2 hP10 hd 0 (by omega) ?_
    refine Rn.step (pc' := 134) rfl rfl ?_
    refine Rn.step (pc' := 136) rfl rfl ?_
    refine Rn.icmp_ge (pc1 := 149) (pc2 := 139) rfl rfl rfl (fun h136 => ?_) (fun h136 => ?_)
    · refine Rn.step (pc' := 152) rfl rfl ?_
      refine Rn.step (pc' := 83) rfl rfl ?_
      obtain ⟨hk0, e1, e2⟩ : 0 < k ∧ fw = alE a (mem0 E s N) (lkB a (mem0 E s N) E.Bn (k - 1)) E.Bn 4 ∧ F 24 3 = nI (lkB a (mem0 E s N) E.Bn (k - 1)) := by
        rcases hst with ⟨z1, z2⟩ | z
        · obtain ⟨c, hc1, hc2⟩ := alE_in a (mem0 E s N) k E.Bn 4
          rw [z2, hc2] at h136
          exact absurd ((nI_leI (a := 8) (b := c) (by omega) (by omega)).mp h136) (by omega)
        · exact z
      have e : lkB a (mem0 E s N) E.Bn k = lkB a (mem0 E s N) E.Bn (k - 1) := by
        have := lkB_s a (mem0 E s N) E.Bn (k - 1)
        rw [show k - 1 + 1 = k by omega, if_neg (Int32.not_lt.mpr (by rw [← e1]; exact h136))] at this
        exact this
      exact Rn.ls8 rfl rfl rfl rfl rfl (congrArg Value.int (nI_i1 k)) rfl rfl (l_T_fw (F := F) hA hp0 hP10 hB6 hd (k + 1) (by omega) (Or.inr ⟨by omega, by rw [show k + 1 - 1 = k by omega, e]; exact e1, by rw [show k + 1 - 1 = k by omega, e]; exact e2⟩) _ _)
    · refine Rn.step (pc' := 141) rfl rfl ?_
      refine Rn.step (pc' := 143) rfl rfl ?_
      refine Rn.step (pc' := 144) rfl rfl ?_
      refine Rn.step (pc' := 146) rfl rfl ?_
      refine Rn.cput (pc' := 149) rfl rfl rfl rfl rfl (by decide) rfl ?_
      refine Rn.step (pc' := 152) rfl rfl ?_
      refine Rn.step (pc' := 83) rfl rfl ?_
      have e : lkB a (mem0 E s N) E.Bn k = k := by
        by_cases z : k = 0
        · subst z
          rfl
        · have := lkB_s a (mem0 E s N) E.Bn (k - 1)
          obtain ⟨z1, e1, e2⟩ := hst.resolve_left (fun y => z y.1)
          rw [show k - 1 + 1 = k by omega, if_pos (by rw [← e1]; exact Int32.not_le.mp h136)] at this
          exact this
      refine (Rn.ls8 rfl rfl rfl rfl rfl (congrArg Value.int (nI_i1 k)) rfl rfl (l_T_fw (F := va_up F 24 (upd (F 24) 3 (nI k))) hA hp0 hP10 hB6 hd (k + 1) (by omega) (Or.inr ⟨by omega, by rw [show k + 1 - 1 = k by omega, e], by rw [show k + 1 - 1 = k by omega, e]; rfl⟩) _ _)).conseq (fun r_ m_ hx => ?_)
      obtain ⟨z1, F1, z2, z3, z4⟩ := hx
      exact ⟨z1, F1, z2, fun k hk => (z3 k hk).trans (up_ne F _ hk), z4⟩
termination_by P - k
set_option maxHeartbeats 4000000 in
theorem l_T_few {d P N a : Nat} {E : xEv} (hh : HB P E s F I H m0) (hs : E.sec = -1) (hfd : E.fd = 0) (ha : a < 128) (hN : N < 199) (hd : 7 ≤ d) (k : Nat) (hk : k ≤ E.Bn + 1) (x5 x6 x7 : Value) {m : xM} (hm : ∃ F1 I1 L1 A, m = CC m0 F1 (va_up I1 27 A) L1 R H ∧ tF F F1 ∧ tI I I1 ∧ ∀ p, p < P → ∀ v, v < 4 → A (4 * p + v) = cnE a (mem0 E s N) p (nI v) (k)) : Rn d j_Trials_fewestAlike 11 [.ref 24, .ref 14, .int (nI a), .int (nI N), .int (nI k - 1), x5, x6, x7] [] m (fun r m2 => r = some (.int (alE a (mem0 E s N) (lkB a (mem0 E s N) E.Bn (P - 1)) E.Bn 4)) ∧ ∃ F1 I1 L1, m2 = CC m0 F1 I1 L1 R H ∧ tF F F1 ∧ tI I I1 ∧ F1 24 3 = nI (lkB a (mem0 E s N) E.Bn (P - 1))) := by
  obtain ⟨F1, I1, L1, A, rfl, fs1, is1, hA⟩ := hm
  have hb6 := hh.wl.b6
  have is1x : tI I (va_up I1 27 A) := is1.up (Or.inr (Or.inl rfl)) A
  refine Rn.step (pc' := 13) rfl rfl ?_
  refine Rn.step (pc' := 14) rfl rfl ?_
  refine Rn.getf (pc' := 17) rfl rfl rfl rfl rfl ?_
  refine Rn.getf (pc' := 20) rfl rfl rfl rfl rfl ?_
  refine Rn.icmp_ge (pc1 := 76) (pc2 := 23) rfl rfl rfl (fun h20 => ?_) (fun h20 => ?_)
  · refine Rn.iconst (v := 8) (pc' := 78) rfl (by decide) rfl ?_
    refine Rn.step (pc' := 80) rfl rfl ?_
    refine Rn.iconst (v := 0) (pc' := 81) rfl (by decide) rfl ?_
    refine Rn.step (pc' := 83) rfl rfl ?_
    have hk3 : k = E.Bn + 1 := by
      have := (pm1 E.Bn (by omega) k (by omega)).mp (by rw [(hh.t fs1 is1x).lr.b, hh.wl.b] at h20; exact h20)
      omega
    subst hk3
    refine (l_T_fw (F := F1) (I := I1) hA ((hh.t fs1 is1x).lr.p.trans hh.wl.p) hh.wl.p10 ⟨hb6, by have := hh.wl.p2; omega⟩ (by omega) 0 (by omega) (Or.inl ⟨rfl, rfl⟩) _ _).conseq (fun r_ m_ hx => ?_)
    obtain ⟨z1, F2, z2, z3, z4⟩ := hx
    exact ⟨z1, F2, _, L1, z2, ⟨fun k h1 h2 => (z3 k h1).trans (fs1.1 k h1 h2), (congrFun (z3 14 (by decide)) 4).trans fs1.2⟩, is1x, z4⟩
  · have hk2 : k < E.Bn + 1 := by
      have := mt (pm1 E.Bn (by omega) k (by omega)).mpr (by rw [(hh.t fs1 is1x).lr.b, hh.wl.b] at h20; exact h20)
      omega
    have hbk : nI k - 1 = -1 ∨ ∃ c, c < E.Bn ∧ nI k - 1 = nI c := by
      cases k with
      | zero => exact Or.inl nI_0m
      | succ c => exact Or.inr ⟨c, by omega, nI_pred c⟩
    refine Rn.step (pc' := 24) rfl rfl ?_
    refine Rn.step (pc' := 26) rfl rfl ?_
    refine Rn.iconst (v := 1) (pc' := 27) rfl (by decide) rfl ?_
    refine Rn.iadd (pc' := 28) rfl rfl ?_
    rw [show nI k - 1 + 1 = nI k from Int32.sub_add_cancel _ _]
    refine Rn.ishr (pc' := 29) rfl rfl ?_
    refine Rn.iconst (v := 1) (pc' := 30) rfl (by decide) rfl ?_
    refine Rn.iand (pc' := 31) rfl rfl ?_
    refine Rn.iconst (v := 1) (pc' := 32) rfl (by decide) rfl ?_
    refine Rn.icmp_ne (pc1 := 70) (pc2 := 35) rfl rfl rfl (fun h32 => ?_) (fun h32 => ?_)
    · refine Rn.step (pc' := 73) rfl rfl ?_
      refine Rn.step (pc' := 11) rfl rfl ?_
      have hbit : ¬ a.testBit k = true := fun z => h32 ((bit_is a ha k (by omega)).mpr z)
      exact Rn.ls8 rfl rfl rfl rfl (congrArg Value.int (show nI k - 1 + Int32.ofInt 1 = nI (k + 1) - 1 by rw [nI_pred]; exact Int32.sub_add_cancel _ _)) rfl rfl rfl (l_T_few hh hs hfd ha hN hd (k + 1) (by omega) _ _ _ ⟨F1, I1, L1, A, rfl, fs1, is1, fun p hp v hv => by
        rw [cnE_s, if_neg (fun z => hbit z.1), Int32.add_zero]
        exact hA p hp v hv⟩)
    · refine Rn.mm (m2 := CWm m0 F1 (va_up I1 27 A) L1 R H 25 (I1 26)) (by
        unfold CWm
        rw [up_cm _ (show 27 ≠ 25 + 1 by decide), show va_up I1 (25 + 1) (I1 26) = I1 from up_id I1 26]) ?_
      refine Rn.step (pc' := 36) rfl rfl ?_
      refine Rn.getf (pc' := 39) rfl rfl rfl rfl rfl ?_
      refine Rn.step (pc' := 40) rfl rfl ?_
      refine Rn.getf (pc' := 43) rfl rfl rfl rfl rfl ?_
      refine Rn.vv (pc' := 46) rfl (by decide) (by omega) rfl rfl rfl (c_W_begin (o := 25) (w := I1 26) (by omega) (by unfold isW; omega) ((hh.t fs1 is1).lr.b.trans hh.wl.b) hb6) ?_
      refine Rn.step (pc' := 47) rfl rfl ?_
      refine Rn.getf (pc' := 50) rfl rfl rfl rfl rfl ?_
      refine Rn.step (pc' := 52) rfl rfl ?_
      refine Rn.vv (pc' := 55) rfl (by decide) (by omega) rfl rfl rfl (c_W_dress (o := 25) (by unfold isW; omega) (nI k - 1)) ?_
      refine Rn.step (pc' := 56) rfl rfl ?_
      refine Rn.step (pc' := 57) rfl rfl ?_
      refine Rn.step (pc' := 58) rfl rfl ?_
      refine Rn.callV (pc' := 61) rfl (by decide) (by omega) rfl rfl rfl (c_T_earn (gg := False) (s := bgS s E.Bn (nI k - 1)) hfd (((hh.bg hbk).t fs1 is1x)) ((bgS_6 hb6 _).up (by omega)) hN (by omega) (WR.bg (hh.t fs1 is1x).lr hh.wl (hb_n hb6 hbk) _)) (fun r_ m_ hc_ => ?_)
      obtain ⟨rfl, z2, L2, w3, rfl, hr3⟩ := hc_
      refine Rn.step (pc' := 62) rfl rfl ?_
      refine Rn.step (pc' := 63) rfl rfl ?_
      refine Rn.step (pc' := 64) rfl rfl ?_
      refine Rn.getf (pc' := 67) rfl rfl rfl rfl rfl ?_
      refine Rn.vv (pc' := 70) rfl (by decide) (by omega) rfl rfl rfl (c_T_see (gg := False) (s := oS E (bgS s E.Bn (nI k - 1)) N) (A := A) hr3 ((hh.t fs1 is1x).lr.b.trans hh.wl.b) hb6 ((hh.t fs1 is1x).lr.p.trans hh.wl.p) hh.wl.p10 (by omega)) ?_
      refine Rn.step (pc' := 73) rfl rfl ?_
      refine Rn.step (pc' := 11) rfl rfl ?_
      have hbit : a.testBit k = true := (bit_is a ha k (by omega)).mp h32
      refine Rn.mm (m2 := CC m0 (fzF F1 z2) (va_up (va_up I1 26 w3) 27 (seeA A (fun j => (mMo (oS E (bgS s E.Bn (nI k - 1)) N) (-1) (nI j) E.Bn).toNatClampNeg) P)) L2 R H) (by rw [up_cm _ (show 26 ≠ 27 by decide)]) ?_
      exact Rn.ls8 rfl rfl rfl rfl (congrArg Value.int (show nI k - 1 + Int32.ofInt 1 = nI (k + 1) - 1 by rw [nI_pred]; exact Int32.sub_add_cancel _ _)) rfl rfl rfl (l_T_few hh hs hfd ha hN hd (k + 1) (by omega) _ _ _ ⟨_, _, L2, _, rfl, fs1.fz z2, is1.up (Or.inl rfl) w3, fun p hp v hv => by
        have hp10 := hh.wl.p10
        obtain ⟨c, hc1, hc2⟩ := mMo_in (s := oS E (bgS s E.Bn (nI k - 1)) N) (p := nI p) E.Bn hb6
        have hm : mem0 E s N (10 * k + p) = nI c := by
          unfold mem0
          rw [show (10 * k + p) / 10 = k by omega, show (10 * k + p) % 10 = p by omega]
          exact hc2
        rw [cnE_s, hm, ← hA p hp v hv]
        show (if 4 * p + v < 4 * P ∧ (4 * p + v) % 4 = (mMo (oS E (bgS s E.Bn (nI k - 1)) N) (-1) (nI ((4 * p + v) / 4)) E.Bn).toNatClampNeg then A (4 * p + v) + 1 else A (4 * p + v)) = _
        rw [show (4 * p + v) / 4 = p by omega, show (4 * p + v) % 4 = v by omega, hc2, nI_clamp (by omega)]
        by_cases e : v = c
        · rw [if_pos ⟨by omega, e⟩, if_pos ⟨hbit, by rw [e]⟩]
        · rw [if_neg (fun z => e z.2), if_neg (fun z => e ((nI_eq (by omega) (by omega)).mp z.2).symm), Int32.add_zero]⟩)
termination_by E.Bn + 1 - k
theorem c_T_few {d P N a : Nat} {E : xEv} (hh : HB P E s F I H m0) (hs : E.sec = -1) (hfd : E.fd = 0) (ha : a < 128) (hN : N < 199) (hd : 7 ≤ d) {m : xM} (hm : ∃ F1 I1 L1, m = CC m0 F1 I1 L1 R H ∧ tF F F1 ∧ tI I I1) : Cl d j_Trials_fewestAlike [.ref 24, .ref 14, .int (nI a), .int (nI N)] m (fun r m2 => r = some (.int (alE a (mem0 E s N) (lkB a (mem0 E s N) E.Bn (P - 1)) E.Bn 4)) ∧ ∃ F1 I1 L1, m2 = CC m0 F1 I1 L1 R H ∧ tF F F1 ∧ tI I I1 ∧ F1 24 3 = nI (lkB a (mem0 E s N) E.Bn (P - 1))) := by
  obtain ⟨F1, I1, L1, rfl, fs1, is1⟩ := hm
  show Rn d j_Trials_fewestAlike 0 _ _ _ _
  refine Rn.step (pc' := 1) rfl rfl ?_
  refine Rn.getf (pc' := 4) rfl rfl rfl rfl rfl ?_
  refine Rn.iconst (v := 0) (pc' := 5) rfl (by decide) rfl ?_
  refine Rn.sv (pc' := 8) rfl (by decide) (by omega) rfl rfl (c_fill 0 (a := 27) (n := 40) rfl (by decide)) ?_
  refine Rn.iconst (v := (-1)) (pc' := 9) rfl (by decide) rfl ?_
  refine Rn.step (pc' := 11) rfl rfl ?_
  refine Rn.ls8 (b4 := .int (nI 0 - 1)) rfl rfl rfl rfl (congrArg Value.int nI_0m.symm) rfl rfl rfl ?_
  exact l_T_few hh hs hfd ha hN hd 0 (by omega) _ _ _ ⟨F1, I1, L1, _, rfl, fs1, is1, fun p hp v hv => filN_i (by have := hh.wl.p10; omega)⟩
end CL0
