/-! THE CLASS: images. An image is 12 cells from a on, laid over the base. -/
section CT
variable {m0 : xM} {F I : Nat → Nat → Int32} {L : Nat → Nat → Int64} {R : Nat → Nat → Option Nat} {H : Value} {s w : Nat → Int32} {o : Nat} {gg : Prop}
def icell (a : Nat) (g : Nat → Int32) : Nat → Option xC
  | 0 => some (.inr (1, [.ref (a + 1), .ref (a + 8), .ref (a + 10), .int (g 3), .int (g 4)]))
  | 1 => some (.inr (2, [.ref (a + 2), .ref (a + 3), .ref (a + 4), .ref (a + 5), .ref (a + 6), .ref (a + 7), .int (g 6), .int (g 7), .int (g 8), .int (g 9), .int (g 10), .int (g 11), .int (g 12)]))
  | 2 => some (.inl (0, 10, xints g))
  | 3 => some (.inl (0, 6, xints g))
  | 4 => some (.inl (0, 6, xints g))
  | 5 => some (.inl (0, 8, xints g))
  | 6 => some (.inl (0, 40, xints g))
  | 7 => some (.inl (0, 4, xints g))
  | 9 => some (.inl (0, 33, xints g))
  | 11 => some (.inl (0, 40, xints g))
  | 8 => some (.inr (10, [.ref (a + 9)]))
  | 10 => some (.inr (4, [.ref (a + 11), .int (g 1)]))
  | _ => none
def IC (m0 : xM) (a : Nat) (G : Nat → Nat → Int32) : xM := (m0.1, m0.2.1, fun k => if a ≤ k ∧ k < a + 12 then icell a (G (k - a)) (k - a) else m0.2.2 k)
section IC0
variable {G : Nat → Nat → Int32} {a : Nat}
theorem IC_at {i : Nat} (ha : 50 ≤ a) (hi : i < 12) : (CC (IC m0 a G) F I L R H).2.2 (a + i) = icell a (G i) i := by
  rw [CC_out (by omega)]
  simp only [IC]
  rw [if_pos ⟨by omega, by omega⟩, Nat.add_sub_cancel_left]
theorem IC_out {k : Nat} (h : ¬ (a ≤ k ∧ k < a + 12)) : (IC m0 a G).2.2 k = m0.2.2 k := by
  simp only [IC, if_neg h]
theorem IC_set {i : Nat} {g : Nat → Int32} {c : xC} (ha : 50 ≤ a) (hi : i < 12) (h : icell a g i = some c) : xset (CC (IC m0 a G) F I L R H) (a + i) c = CC (IC m0 a (va_up G i g)) F I L R H := by
  simp only [xset, CC, IC]
  congr 2
  funext k
  by_cases hk : k = a + i
  · subst hk
    simp only [va_up, if_true]
    rw [if_neg (by omega), if_pos ⟨by omega, by omega⟩, Nat.add_sub_cancel_left, if_pos rfl, h]
  · simp only [va_up, if_neg hk]
    by_cases h5 : k < 50
    · rw [if_pos h5, if_pos h5]
    · rw [if_neg h5, if_neg h5]
      by_cases h6 : a ≤ k ∧ k < a + 12
      · rw [if_pos h6, if_pos h6, if_neg (by omega)]
      · rw [if_neg h6, if_neg h6]
theorem IC_o0 (ha : 50 ≤ a) : (CC (IC m0 a G) F I L R H).2.2 a = some (.inr (1, [.ref (a + 1), .ref (a + 8), .ref (a + 10), .int (G 0 3), .int (G 0 4)])) := IC_at (i := 0) ha (by omega)
theorem IC_o1 (ha : 50 ≤ a) : (CC (IC m0 a G) F I L R H).2.2 (a + 1) = some (.inr (2, [.ref (a + 2), .ref (a + 3), .ref (a + 4), .ref (a + 5), .ref (a + 6), .ref (a + 7), .int (G 1 6), .int (G 1 7), .int (G 1 8), .int (G 1 9), .int (G 1 10), .int (G 1 11), .int (G 1 12)])) := IC_at (i := 1) ha (by omega)
theorem IC_o8 (ha : 50 ≤ a) : (CC (IC m0 a G) F I L R H).2.2 (a + 8) = some (.inr (10, [.ref (a + 9)])) := IC_at (i := 8) ha (by omega)
theorem IC_o10 (ha : 50 ≤ a) : (CC (IC m0 a G) F I L R H).2.2 (a + 10) = some (.inr (4, [.ref (a + 11), .int (G 10 1)])) := IC_at (i := 10) ha (by omega)
variable {d j pc len pc' : Nat} {ls st : List Value} {Q : Option Value → xM → Prop}
theorem Rn.xcp {m : xM} {a0 a1 n0 n1 n : Nat} {f g : Nat → Int32} {i2 : Int32} (hG : xG j pc = some (.invokestatic 9998, len)) (hd : 0 < d) (ha0 : m.2.2 a0 = some (.inl (0, n0, xints f))) (ha : m.2.2 a1 = some (.inl (0, n1, xints g))) (hl : a0 < xS ∧ a1 < xS) (h2 : i2 = nI n) (hs : n ≤ n0 ∧ n ≤ n1 ∧ n0 < 2147483648 ∧ n1 < 2147483648) (hc : xcat st ≤ 8) (hp : pc + len = pc') (kk : Rn d j pc' ls st (xset m a1 (.inl (0, n1, xints (va_cpy f g 0 0 n)))) Q) : Rn d j pc ls (.int i2 :: .int 0 :: .ref a1 :: .int 0 :: .ref a0 :: st) m Q := by
  subst h2 hp
  have hcond : a1 < xS ∧ a0 < xS ∧ xcat st ≤ 8 ∧ ¬ (0 : Int32) < 0 ∧ ¬ (0 : Int32) < 0 ∧ ¬ nI n < 0 := ⟨hl.2, hl.1, hc, by decide, by decide, nI_pos (by omega)⟩
  have hcond2 : (0 : Int32).toNatClampNeg + (nI n).toNatClampNeg ≤ n0 ∧ (0 : Int32).toNatClampNeg + (nI n).toNatClampNeg ≤ n1 := by
    rw [nI_clamp (by omega), show (0 : Int32).toNatClampNeg = 0 by decide]
    omega
  refine Rn.copy (m' := _) hG hd (by simp only [x_copy, if_pos hcond, ha0, ha, if_pos hcond2]; rfl) ?_
  rw [nI_clamp (by omega), show (0 : Int32).toNatClampNeg = 0 by decide]
  exact kk
theorem Rn.icopy {a0 n0 n1 i : Nat} {i2 : Int32} (hG : xG j pc = some (.invokestatic 9998, len)) (hd : 0 < d) (h5 : 50 ≤ a ∧ a + 12 ≤ xS) (ha0 : cInt a0 = some (0, n0)) (hi : i < 12) (hc : ∀ g, icell a g i = some (.inl (0, n1, xints g))) (h2 : i2 = nI n1) (hs : n1 ≤ n0 ∧ n0 < 2147483648) (hx : xcat st ≤ 8) (hp : pc + len = pc') (kk : Rn d j pc' ls st (CC (IC m0 a (va_up G i (va_cpy (I a0) (G i) 0 0 n1))) F I L R H) Q) : Rn d j pc ls (.int i2 :: .int 0 :: .ref (a + i) :: .int 0 :: .ref a0 :: st) (CC (IC m0 a G) F I L R H) Q := by
  have h1 := cInt_in ha0
  refine Rn.xcp hG hd (CC_I ha0) ((IC_at h5.1 hi).trans (hc _)) ⟨by unfold xS; omega, by omega⟩ h2 ⟨hs.1, Nat.le_refl _, hs.2, by omega⟩ hx hp ?_
  rw [IC_set h5.1 hi (hc _)]
  exact kk
theorem Rn.bcopy {a1 n0 n1 i : Nat} {i2 : Int32} (hG : xG j pc = some (.invokestatic 9998, len)) (hd : 0 < d) (h5 : 50 ≤ a ∧ a + 12 ≤ xS) (ha1 : cInt a1 = some (0, n1)) (hi : i < 12) (hc : ∀ g, icell a g i = some (.inl (0, n0, xints g))) (h2 : i2 = nI n1) (hs : n1 ≤ n0 ∧ n0 < 2147483648) (hx : xcat st ≤ 8) (hp : pc + len = pc') (kk : Rn d j pc' ls st (CC (IC m0 a G) F (va_up I a1 (va_cpy (G i) (I a1) 0 0 n1)) L R H) Q) : Rn d j pc ls (.int i2 :: .int 0 :: .ref a1 :: .int 0 :: .ref (a + i) :: st) (CC (IC m0 a G) F I L R H) Q := by
  have h1 := cInt_in ha1
  refine Rn.xcp hG hd ((IC_at h5.1 hi).trans (hc _)) (CC_I ha1) ⟨by omega, by unfold xS; omega⟩ h2 ⟨hs.1, Nat.le_refl _, hs.2, by omega⟩ hx hp ?_
  have := CC_setI (m0 := IC m0 a G) (F := F) (I := I) (L := L) (R := R) (H := H) ha1 (va_cpy (G i) (I a1) 0 0 n1)
  dsimp only at this
  rw [this]
  exact kk
theorem Rn.iput {q i : Nat} {x : Int32} {fs : List Value} (hG : xG j pc = some (.putfield q, len)) (h5 : 50 ≤ a ∧ a + 12 ≤ xS) (hi : i < 12) (ho : icell a (G i) i = some (.inr (q / 64, fs))) (hty : (xfty (q / 64))[q % 64]? = some .int) (hs : icell a (upd (G i) (q % 64) x) i = some (.inr (q / 64, fs.set (q % 64) (.int x)))) (hl : Nat.blt (q % 64) fs.length = true) (hp : pc + len = pc') (kk : Rn d j pc' ls st (CC (IC m0 a (va_up G i (upd (G i) (q % 64) x))) F I L R H) Q) : Rn d j pc ls (.int x :: .ref (a + i) :: st) (CC (IC m0 a G) F I L R H) Q := by
  refine Rn.putf (ci := q / 64) (fs := fs) hG (by omega) ((IC_at h5.1 hi).trans ho) ⟨rfl, by rwa [Nat.blt_eq] at hl⟩ hty ⟨rfl, rfl⟩ hp ?_
  rw [IC_set h5.1 hi hs]
  exact kk
end IC0
theorem cpy0 {f g : Nat → Int32} {n j : Nat} (h : j < n) : va_cpy f g 0 0 n j = f j := by
  rw [pk_cpy_in (by omega) (by omega), Nat.zero_add, Nat.sub_zero]
set_option maxHeartbeats 4000000 in
theorem c_L_cpI {d a : Nat} {G : Nat → Nat → Int32} (hd : 1 ≤ d) (h5 : 50 ≤ a ∧ a + 12 ≤ xS) : Cl d j_Lane_copyFrom [.ref (a + 1), .ref 17] (CC (IC m0 a G) F I L R H) (fun r m2 => r = none ∧ ∃ G1, m2 = CC (IC m0 a G1) F I L R H ∧ (∀ i, i < 1 ∨ 6 < i → G1 i = G i) ∧ ((∀ j, j < 10 → G1 2 j = I 18 j) ∧ (∀ j, j < 6 → G1 3 j = I 19 j) ∧ (∀ j, j < 6 → G1 4 j = I 20 j) ∧ (∀ j, j < 8 → G1 5 j = I 21 j) ∧ (∀ j, j < 40 → G1 6 j = I 22 j)) ∧ G1 1 6 = F 17 6 ∧ G1 1 7 = F 17 7 ∧ G1 1 8 = F 17 8 ∧ G1 1 9 = F 17 9 ∧ G1 1 10 = F 17 10 ∧ G1 1 11 = F 17 11 ∧ G1 1 12 = F 17 12) := by
  show Rn d j_Lane_copyFrom 0 _ _ _ _
  refine Rn.step (pc' := 1) rfl rfl ?_
  refine Rn.getf (pc' := 4) rfl rfl rfl rfl rfl ?_
  refine Rn.iconst (v := 0) (pc' := 5) rfl (by decide) rfl ?_
  refine Rn.step (pc' := 6) rfl rfl ?_
  refine Rn.getf (pc' := 9) rfl (IC_o1 h5.1) rfl rfl rfl ?_
  refine Rn.iconst (v := 0) (pc' := 10) rfl (by decide) rfl ?_
  refine Rn.step (pc' := 11) rfl rfl ?_
  refine Rn.getf (pc' := 14) rfl (IC_o1 h5.1) rfl rfl rfl ?_
  refine Rn.alen (pc' := 15) rfl (IC_at (i := 2) h5.1 (by omega)) (show (0 : Nat) < 7 by decide) rfl ?_
  refine Rn.icopy (a0 := 18) (n0 := 10) (n1 := 10) (i := 2) (pc' := 18) rfl (by omega) h5 rfl (by omega) (fun _ => rfl) rfl (by omega) (Nat.zero_le 8) rfl ?_
  refine Rn.step (pc' := 19) rfl rfl ?_
  refine Rn.getf (pc' := 22) rfl rfl rfl rfl rfl ?_
  refine Rn.iconst (v := 0) (pc' := 23) rfl (by decide) rfl ?_
  refine Rn.step (pc' := 24) rfl rfl ?_
  refine Rn.getf (pc' := 27) rfl (IC_o1 h5.1) rfl rfl rfl ?_
  refine Rn.iconst (v := 0) (pc' := 28) rfl (by decide) rfl ?_
  refine Rn.step (pc' := 29) rfl rfl ?_
  refine Rn.getf (pc' := 32) rfl (IC_o1 h5.1) rfl rfl rfl ?_
  refine Rn.alen (pc' := 33) rfl (IC_at (i := 3) h5.1 (by omega)) (show (0 : Nat) < 7 by decide) rfl ?_
  refine Rn.icopy (a0 := 19) (n0 := 6) (n1 := 6) (i := 3) (pc' := 36) rfl (by omega) h5 rfl (by omega) (fun _ => rfl) rfl (by omega) (Nat.zero_le 8) rfl ?_
  refine Rn.step (pc' := 37) rfl rfl ?_
  refine Rn.getf (pc' := 40) rfl rfl rfl rfl rfl ?_
  refine Rn.iconst (v := 0) (pc' := 41) rfl (by decide) rfl ?_
  refine Rn.step (pc' := 42) rfl rfl ?_
  refine Rn.getf (pc' := 45) rfl (IC_o1 h5.1) rfl rfl rfl ?_
  refine Rn.iconst (v := 0) (pc' := 46) rfl (by decide) rfl ?_
  refine Rn.step (pc' := 47) rfl rfl ?_
  refine Rn.getf (pc' := 50) rfl (IC_o1 h5.1) rfl rfl rfl ?_
  refine Rn.alen (pc' := 51) rfl (IC_at (i := 4) h5.1 (by omega)) (show (0 : Nat) < 7 by decide) rfl ?_
  refine Rn.icopy (a0 := 20) (n0 := 6) (n1 := 6) (i := 4) (pc' := 54) rfl (by omega) h5 rfl (by omega) (fun _ => rfl) rfl (by omega) (Nat.zero_le 8) rfl ?_
  refine Rn.step (pc' := 55) rfl rfl ?_
  refine Rn.getf (pc' := 58) rfl rfl rfl rfl rfl ?_
  refine Rn.iconst (v := 0) (pc' := 59) rfl (by decide) rfl ?_
  refine Rn.step (pc' := 60) rfl rfl ?_
  refine Rn.getf (pc' := 63) rfl (IC_o1 h5.1) rfl rfl rfl ?_
  refine Rn.iconst (v := 0) (pc' := 64) rfl (by decide) rfl ?_
  refine Rn.step (pc' := 65) rfl rfl ?_
  refine Rn.getf (pc' := 68) rfl (IC_o1 h5.1) rfl rfl rfl ?_
  refine Rn.alen (pc' := 69) rfl (IC_at (i := 5) h5.1 (by omega)) (show (0 : Nat) < 7 by decide) rfl ?_
  refine Rn.icopy (a0 := 21) (n0 := 8) (n1 := 8) (i := 5) (pc' := 72) rfl (by omega) h5 rfl (by omega) (fun _ => rfl) rfl (by omega) (Nat.zero_le 8) rfl ?_
  refine Rn.step (pc' := 73) rfl rfl ?_
  refine Rn.getf (pc' := 76) rfl rfl rfl rfl rfl ?_
  refine Rn.iconst (v := 0) (pc' := 77) rfl (by decide) rfl ?_
  refine Rn.step (pc' := 78) rfl rfl ?_
  refine Rn.getf (pc' := 81) rfl (IC_o1 h5.1) rfl rfl rfl ?_
  refine Rn.iconst (v := 0) (pc' := 82) rfl (by decide) rfl ?_
  refine Rn.step (pc' := 83) rfl rfl ?_
  refine Rn.getf (pc' := 86) rfl (IC_o1 h5.1) rfl rfl rfl ?_
  refine Rn.alen (pc' := 87) rfl (IC_at (i := 6) h5.1 (by omega)) (show (0 : Nat) < 7 by decide) rfl ?_
  refine Rn.icopy (a0 := 22) (n0 := 40) (n1 := 40) (i := 6) (pc' := 90) rfl (by omega) h5 rfl (by omega) (fun _ => rfl) rfl (by omega) (Nat.zero_le 8) rfl ?_
  refine Rn.step (pc' := 91) rfl rfl ?_
  refine Rn.step (pc' := 92) rfl rfl ?_
  refine Rn.getf (pc' := 95) rfl rfl rfl rfl rfl ?_
  refine Rn.iput (i := 1) (pc' := 98) rfl h5 (by omega) rfl rfl rfl rfl rfl ?_
  refine Rn.step (pc' := 99) rfl rfl ?_
  refine Rn.step (pc' := 100) rfl rfl ?_
  refine Rn.getf (pc' := 103) rfl rfl rfl rfl rfl ?_
  refine Rn.iput (i := 1) (pc' := 106) rfl h5 (by omega) rfl rfl rfl rfl rfl ?_
  refine Rn.step (pc' := 107) rfl rfl ?_
  refine Rn.step (pc' := 108) rfl rfl ?_
  refine Rn.getf (pc' := 111) rfl rfl rfl rfl rfl ?_
  refine Rn.iput (i := 1) (pc' := 114) rfl h5 (by omega) rfl rfl rfl rfl rfl ?_
  refine Rn.step (pc' := 115) rfl rfl ?_
  refine Rn.step (pc' := 116) rfl rfl ?_
  refine Rn.getf (pc' := 119) rfl rfl rfl rfl rfl ?_
  refine Rn.iput (i := 1) (pc' := 122) rfl h5 (by omega) rfl rfl rfl rfl rfl ?_
  refine Rn.step (pc' := 123) rfl rfl ?_
  refine Rn.step (pc' := 124) rfl rfl ?_
  refine Rn.getf (pc' := 127) rfl rfl rfl rfl rfl ?_
  refine Rn.iput (i := 1) (pc' := 130) rfl h5 (by omega) rfl rfl rfl rfl rfl ?_
  refine Rn.step (pc' := 131) rfl rfl ?_
  refine Rn.step (pc' := 132) rfl rfl ?_
  refine Rn.getf (pc' := 135) rfl rfl rfl rfl rfl ?_
  refine Rn.iput (i := 1) (pc' := 138) rfl h5 (by omega) rfl rfl rfl rfl rfl ?_
  refine Rn.step (pc' := 139) rfl rfl ?_
  refine Rn.step (pc' := 140) rfl rfl ?_
  refine Rn.getf (pc' := 143) rfl rfl rfl rfl rfl ?_
  refine Rn.iput (i := 1) (pc' := 146) rfl h5 (by omega) rfl rfl rfl rfl rfl ?_
  exact Rn.vret rfl (⟨rfl, _, rfl, fun i hi => by simp only [up_ne _ _ (show i ≠ 1 by omega), up_ne _ _ (show i ≠ 2 by omega), up_ne _ _ (show i ≠ 3 by omega), up_ne _ _ (show i ≠ 4 by omega), up_ne _ _ (show i ≠ 5 by omega), up_ne _ _ (show i ≠ 6 by omega)], ⟨fun j hj => cpy0 hj, fun j hj => cpy0 hj, fun j hj => cpy0 hj, fun j hj => cpy0 hj, fun j hj => cpy0 hj⟩, rfl, rfl, rfl, rfl, rfl, rfl, rfl⟩)
set_option maxHeartbeats 4000000 in
theorem c_L_cpB {d a : Nat} {G : Nat → Nat → Int32} (hd : 1 ≤ d) (h5 : 50 ≤ a ∧ a + 12 ≤ xS) : Cl d j_Lane_copyFrom [.ref 17, .ref (a + 1)] (CC (IC m0 a G) F I L R H) (fun r m2 => r = none ∧ ∃ F1 I1, m2 = CC (IC m0 a G) F1 I1 L R H ∧ (∀ k, k ≠ 17 → F1 k = F k) ∧ (∀ k, k < 18 ∨ 22 < k → I1 k = I k) ∧ ((∀ j, j < 10 → I1 18 j = G 2 j) ∧ (∀ j, j < 6 → I1 19 j = G 3 j) ∧ (∀ j, j < 6 → I1 20 j = G 4 j) ∧ (∀ j, j < 8 → I1 21 j = G 5 j) ∧ (∀ j, j < 40 → I1 22 j = G 6 j)) ∧ F1 17 6 = G 1 6 ∧ F1 17 7 = G 1 7 ∧ F1 17 8 = G 1 8 ∧ F1 17 9 = G 1 9 ∧ F1 17 10 = G 1 10 ∧ F1 17 11 = G 1 11 ∧ F1 17 12 = G 1 12) := by
  show Rn d j_Lane_copyFrom 0 _ _ _ _
  refine Rn.step (pc' := 1) rfl rfl ?_
  refine Rn.getf (pc' := 4) rfl (IC_o1 h5.1) rfl rfl rfl ?_
  refine Rn.iconst (v := 0) (pc' := 5) rfl (by decide) rfl ?_
  refine Rn.step (pc' := 6) rfl rfl ?_
  refine Rn.getf (pc' := 9) rfl rfl rfl rfl rfl ?_
  refine Rn.iconst (v := 0) (pc' := 10) rfl (by decide) rfl ?_
  refine Rn.step (pc' := 11) rfl rfl ?_
  refine Rn.getf (pc' := 14) rfl rfl rfl rfl rfl ?_
  refine Rn.step (pc' := 15) rfl rfl ?_
  refine Rn.bcopy (a1 := 18) (n0 := 10) (n1 := 10) (i := 2) (pc' := 18) rfl (by omega) h5 rfl (by omega) (fun _ => rfl) rfl (by omega) (Nat.zero_le 8) rfl ?_
  refine Rn.step (pc' := 19) rfl rfl ?_
  refine Rn.getf (pc' := 22) rfl (IC_o1 h5.1) rfl rfl rfl ?_
  refine Rn.iconst (v := 0) (pc' := 23) rfl (by decide) rfl ?_
  refine Rn.step (pc' := 24) rfl rfl ?_
  refine Rn.getf (pc' := 27) rfl rfl rfl rfl rfl ?_
  refine Rn.iconst (v := 0) (pc' := 28) rfl (by decide) rfl ?_
  refine Rn.step (pc' := 29) rfl rfl ?_
  refine Rn.getf (pc' := 32) rfl rfl rfl rfl rfl ?_
  refine Rn.step (pc' := 33) rfl rfl ?_
  refine Rn.bcopy (a1 := 19) (n0 := 6) (n1 := 6) (i := 3) (pc' := 36) rfl (by omega) h5 rfl (by omega) (fun _ => rfl) rfl (by omega) (Nat.zero_le 8) rfl ?_
  refine Rn.step (pc' := 37) rfl rfl ?_
  refine Rn.getf (pc' := 40) rfl (IC_o1 h5.1) rfl rfl rfl ?_
  refine Rn.iconst (v := 0) (pc' := 41) rfl (by decide) rfl ?_
  refine Rn.step (pc' := 42) rfl rfl ?_
  refine Rn.getf (pc' := 45) rfl rfl rfl rfl rfl ?_
  refine Rn.iconst (v := 0) (pc' := 46) rfl (by decide) rfl ?_
  refine Rn.step (pc' := 47) rfl rfl ?_
  refine Rn.getf (pc' := 50) rfl rfl rfl rfl rfl ?_
  refine Rn.step (pc' := 51) rfl rfl ?_
  refine Rn.bcopy (a1 := 20) (n0 := 6) (n1 := 6) (i := 4) (pc' := 54) rfl (by omega) h5 rfl (by omega) (fun _ => rfl) rfl (by omega) (Nat.zero_le 8) rfl ?_
  refine Rn.step (pc' := 55) rfl rfl ?_
  refine Rn.getf (pc' := 58) rfl (IC_o1 h5.1) rfl rfl rfl ?_
  refine Rn.iconst (v := 0) (pc' := 59) rfl (by decide) rfl ?_
  refine Rn.step (pc' := 60) rfl rfl ?_
  refine Rn.getf (pc' := 63) rfl rfl rfl rfl rfl ?_
  refine Rn.iconst (v := 0) (pc' := 64) rfl (by decide) rfl ?_
  refine Rn.step (pc' := 65) rfl rfl ?_
  refine Rn.getf (pc' := 68) rfl rfl rfl rfl rfl ?_
  refine Rn.step (pc' := 69) rfl rfl ?_
  refine Rn.bcopy (a1 := 21) (n0 := 8) (n1 := 8) (i := 5) (pc' := 72) rfl (by omega) h5 rfl (by omega) (fun _ => rfl) rfl (by omega) (Nat.zero_le 8) rfl ?_
  refine Rn.step (pc' := 73) rfl rfl ?_
  refine Rn.getf (pc' := 76) rfl (IC_o1 h5.1) rfl rfl rfl ?_
  refine Rn.iconst (v := 0) (pc' := 77) rfl (by decide) rfl ?_
  refine Rn.step (pc' := 78) rfl rfl ?_
  refine Rn.getf (pc' := 81) rfl rfl rfl rfl rfl ?_
  refine Rn.iconst (v := 0) (pc' := 82) rfl (by decide) rfl ?_
  refine Rn.step (pc' := 83) rfl rfl ?_
  refine Rn.getf (pc' := 86) rfl rfl rfl rfl rfl ?_
  refine Rn.step (pc' := 87) rfl rfl ?_
  refine Rn.bcopy (a1 := 22) (n0 := 40) (n1 := 40) (i := 6) (pc' := 90) rfl (by omega) h5 rfl (by omega) (fun _ => rfl) rfl (by omega) (Nat.zero_le 8) rfl ?_
  refine Rn.step (pc' := 91) rfl rfl ?_
  refine Rn.step (pc' := 92) rfl rfl ?_
  refine Rn.getf (pc' := 95) rfl (IC_o1 h5.1) rfl rfl rfl ?_
  refine Rn.cput (pc' := 98) rfl rfl rfl rfl rfl (by decide) rfl ?_
  refine Rn.step (pc' := 99) rfl rfl ?_
  refine Rn.step (pc' := 100) rfl rfl ?_
  refine Rn.getf (pc' := 103) rfl (IC_o1 h5.1) rfl rfl rfl ?_
  refine Rn.cput (pc' := 106) rfl rfl rfl rfl rfl (by decide) rfl ?_
  refine Rn.step (pc' := 107) rfl rfl ?_
  refine Rn.step (pc' := 108) rfl rfl ?_
  refine Rn.getf (pc' := 111) rfl (IC_o1 h5.1) rfl rfl rfl ?_
  refine Rn.cput (pc' := 114) rfl rfl rfl rfl rfl (by decide) rfl ?_
  refine Rn.step (pc' := 115) rfl rfl ?_
  refine Rn.step (pc' := 116) rfl rfl ?_
  refine Rn.getf (pc' := 119) rfl (IC_o1 h5.1) rfl rfl rfl ?_
  refine Rn.cput (pc' := 122) rfl rfl rfl rfl rfl (by decide) rfl ?_
  refine Rn.step (pc' := 123) rfl rfl ?_
  refine Rn.step (pc' := 124) rfl rfl ?_
  refine Rn.getf (pc' := 127) rfl (IC_o1 h5.1) rfl rfl rfl ?_
  refine Rn.cput (pc' := 130) rfl rfl rfl rfl rfl (by decide) rfl ?_
  refine Rn.step (pc' := 131) rfl rfl ?_
  refine Rn.step (pc' := 132) rfl rfl ?_
  refine Rn.getf (pc' := 135) rfl (IC_o1 h5.1) rfl rfl rfl ?_
  refine Rn.cput (pc' := 138) rfl rfl rfl rfl rfl (by decide) rfl ?_
  refine Rn.step (pc' := 139) rfl rfl ?_
  refine Rn.step (pc' := 140) rfl rfl ?_
  refine Rn.getf (pc' := 143) rfl (IC_o1 h5.1) rfl rfl rfl ?_
  refine Rn.cput (pc' := 146) rfl rfl rfl rfl rfl (by decide) rfl ?_
  exact Rn.vret rfl (⟨rfl, _, _, rfl, fun k hk => by simp only [up_ne _ _ hk], fun i hi => by simp only [up_ne _ _ (show i ≠ 18 by omega), up_ne _ _ (show i ≠ 19 by omega), up_ne _ _ (show i ≠ 20 by omega), up_ne _ _ (show i ≠ 21 by omega), up_ne _ _ (show i ≠ 22 by omega)], ⟨fun j hj => cpy0 hj, fun j hj => cpy0 hj, fun j hj => cpy0 hj, fun j hj => cpy0 hj, fun j hj => cpy0 hj⟩, rfl, rfl, rfl, rfl, rfl, rfl, rfl⟩)
set_option maxHeartbeats 4000000 in
theorem c_L_cpC {d : Nat} (hd : 1 ≤ d) : Cl d j_Lane_copyFrom [.ref 17, .ref 43] (CC m0 F I L R H) (fun r m2 => r = none ∧ ∃ F1 I1, m2 = CC m0 F1 I1 L R H ∧ (∀ k, k ≠ 17 → F1 k = F k) ∧ (∀ k, k < 18 ∨ 22 < k → I1 k = I k) ∧ ((∀ j, j < 10 → I1 18 j = I 44 j) ∧ (∀ j, j < 6 → I1 19 j = I 45 j) ∧ (∀ j, j < 6 → I1 20 j = I 46 j) ∧ (∀ j, j < 8 → I1 21 j = I 47 j) ∧ (∀ j, j < 40 → I1 22 j = I 48 j)) ∧ F1 17 6 = F 43 6 ∧ F1 17 7 = F 43 7 ∧ F1 17 8 = F 43 8 ∧ F1 17 9 = F 43 9 ∧ F1 17 10 = F 43 10 ∧ F1 17 11 = F 43 11 ∧ F1 17 12 = F 43 12) := by
  show Rn d j_Lane_copyFrom 0 _ _ _ _
  refine Rn.step (pc' := 1) rfl rfl ?_
  refine Rn.getf (pc' := 4) rfl rfl rfl rfl rfl ?_
  refine Rn.iconst (v := 0) (pc' := 5) rfl (by decide) rfl ?_
  refine Rn.step (pc' := 6) rfl rfl ?_
  refine Rn.getf (pc' := 9) rfl rfl rfl rfl rfl ?_
  refine Rn.iconst (v := 0) (pc' := 10) rfl (by decide) rfl ?_
  refine Rn.step (pc' := 11) rfl rfl ?_
  refine Rn.getf (pc' := 14) rfl rfl rfl rfl rfl ?_
  refine Rn.step (pc' := 15) rfl rfl ?_
  refine Rn.ccopy (a0 := 44) (a := 18) (sp := 0) (dp := 0) (n := 10) (pc' := 18) rfl (by omega) rfl rfl rfl rfl rfl (by omega) (Nat.zero_le 8) rfl ?_
  refine Rn.step (pc' := 19) rfl rfl ?_
  refine Rn.getf (pc' := 22) rfl rfl rfl rfl rfl ?_
  refine Rn.iconst (v := 0) (pc' := 23) rfl (by decide) rfl ?_
  refine Rn.step (pc' := 24) rfl rfl ?_
  refine Rn.getf (pc' := 27) rfl rfl rfl rfl rfl ?_
  refine Rn.iconst (v := 0) (pc' := 28) rfl (by decide) rfl ?_
  refine Rn.step (pc' := 29) rfl rfl ?_
  refine Rn.getf (pc' := 32) rfl rfl rfl rfl rfl ?_
  refine Rn.step (pc' := 33) rfl rfl ?_
  refine Rn.ccopy (a0 := 45) (a := 19) (sp := 0) (dp := 0) (n := 6) (pc' := 36) rfl (by omega) rfl rfl rfl rfl rfl (by omega) (Nat.zero_le 8) rfl ?_
  refine Rn.step (pc' := 37) rfl rfl ?_
  refine Rn.getf (pc' := 40) rfl rfl rfl rfl rfl ?_
  refine Rn.iconst (v := 0) (pc' := 41) rfl (by decide) rfl ?_
  refine Rn.step (pc' := 42) rfl rfl ?_
  refine Rn.getf (pc' := 45) rfl rfl rfl rfl rfl ?_
  refine Rn.iconst (v := 0) (pc' := 46) rfl (by decide) rfl ?_
  refine Rn.step (pc' := 47) rfl rfl ?_
  refine Rn.getf (pc' := 50) rfl rfl rfl rfl rfl ?_
  refine Rn.step (pc' := 51) rfl rfl ?_
  refine Rn.ccopy (a0 := 46) (a := 20) (sp := 0) (dp := 0) (n := 6) (pc' := 54) rfl (by omega) rfl rfl rfl rfl rfl (by omega) (Nat.zero_le 8) rfl ?_
  refine Rn.step (pc' := 55) rfl rfl ?_
  refine Rn.getf (pc' := 58) rfl rfl rfl rfl rfl ?_
  refine Rn.iconst (v := 0) (pc' := 59) rfl (by decide) rfl ?_
  refine Rn.step (pc' := 60) rfl rfl ?_
  refine Rn.getf (pc' := 63) rfl rfl rfl rfl rfl ?_
  refine Rn.iconst (v := 0) (pc' := 64) rfl (by decide) rfl ?_
  refine Rn.step (pc' := 65) rfl rfl ?_
  refine Rn.getf (pc' := 68) rfl rfl rfl rfl rfl ?_
  refine Rn.step (pc' := 69) rfl rfl ?_
  refine Rn.ccopy (a0 := 47) (a := 21) (sp := 0) (dp := 0) (n := 8) (pc' := 72) rfl (by omega) rfl rfl rfl rfl rfl (by omega) (Nat.zero_le 8) rfl ?_
  refine Rn.step (pc' := 73) rfl rfl ?_
  refine Rn.getf (pc' := 76) rfl rfl rfl rfl rfl ?_
  refine Rn.iconst (v := 0) (pc' := 77) rfl (by decide) rfl ?_
  refine Rn.step (pc' := 78) rfl rfl ?_
  refine Rn.getf (pc' := 81) rfl rfl rfl rfl rfl ?_
  refine Rn.iconst (v := 0) (pc' := 82) rfl (by decide) rfl ?_
  refine Rn.step (pc' := 83) rfl rfl ?_
  refine Rn.getf (pc' := 86) rfl rfl rfl rfl rfl ?_
  refine Rn.step (pc' := 87) rfl rfl ?_
  refine Rn.ccopy (a0 := 48) (a := 22) (sp := 0) (dp := 0) (n := 40) (pc' := 90) rfl (by omega) rfl rfl rfl rfl rfl (by omega) (Nat.zero_le 8) rfl ?_
  refine Rn.step (pc' := 91) rfl rfl ?_
  refine Rn.step (pc' := 92) rfl rfl ?_
  refine Rn.getf (pc' := 95) rfl rfl rfl rfl rfl ?_
  refine Rn.cput (pc' := 98) rfl rfl rfl rfl rfl (by decide) rfl ?_
  refine Rn.step (pc' := 99) rfl rfl ?_
  refine Rn.step (pc' := 100) rfl rfl ?_
  refine Rn.getf (pc' := 103) rfl rfl rfl rfl rfl ?_
  refine Rn.cput (pc' := 106) rfl rfl rfl rfl rfl (by decide) rfl ?_
  refine Rn.step (pc' := 107) rfl rfl ?_
  refine Rn.step (pc' := 108) rfl rfl ?_
  refine Rn.getf (pc' := 111) rfl rfl rfl rfl rfl ?_
  refine Rn.cput (pc' := 114) rfl rfl rfl rfl rfl (by decide) rfl ?_
  refine Rn.step (pc' := 115) rfl rfl ?_
  refine Rn.step (pc' := 116) rfl rfl ?_
  refine Rn.getf (pc' := 119) rfl rfl rfl rfl rfl ?_
  refine Rn.cput (pc' := 122) rfl rfl rfl rfl rfl (by decide) rfl ?_
  refine Rn.step (pc' := 123) rfl rfl ?_
  refine Rn.step (pc' := 124) rfl rfl ?_
  refine Rn.getf (pc' := 127) rfl rfl rfl rfl rfl ?_
  refine Rn.cput (pc' := 130) rfl rfl rfl rfl rfl (by decide) rfl ?_
  refine Rn.step (pc' := 131) rfl rfl ?_
  refine Rn.step (pc' := 132) rfl rfl ?_
  refine Rn.getf (pc' := 135) rfl rfl rfl rfl rfl ?_
  refine Rn.cput (pc' := 138) rfl rfl rfl rfl rfl (by decide) rfl ?_
  refine Rn.step (pc' := 139) rfl rfl ?_
  refine Rn.step (pc' := 140) rfl rfl ?_
  refine Rn.getf (pc' := 143) rfl rfl rfl rfl rfl ?_
  refine Rn.cput (pc' := 146) rfl rfl rfl rfl rfl (by decide) rfl ?_
  exact Rn.vret rfl (⟨rfl, _, _, rfl, fun k hk => by simp only [up_ne _ _ hk], fun i hi => by simp only [up_ne _ _ (show i ≠ 18 by omega), up_ne _ _ (show i ≠ 19 by omega), up_ne _ _ (show i ≠ 20 by omega), up_ne _ _ (show i ≠ 21 by omega), up_ne _ _ (show i ≠ 22 by omega)], ⟨fun j hj => cpy0 hj, fun j hj => cpy0 hj, fun j hj => cpy0 hj, fun j hj => cpy0 hj, fun j hj => cpy0 hj⟩, rfl, rfl, rfl, rfl, rfl, rfl, rfl⟩)
theorem c_W_cpI {d a : Nat} {G : Nat → Nat → Int32} (hd : 1 ≤ d) (h5 : 50 ≤ a ∧ a + 12 ≤ xS) : Cl d j_World_copyFrom [.ref (a + 8), .ref 8] (CC (IC m0 a G) F I L R H) (Pv (CC (IC m0 a (va_up G 9 (va_cpy (I 9) (G 9) 0 0 33))) F I L R H)) := by
  show Rn d j_World_copyFrom 0 _ _ _ _
  refine Rn.step (pc' := 1) rfl rfl ?_
  refine Rn.getf (pc' := 4) rfl rfl rfl rfl rfl ?_
  refine Rn.iconst (v := 0) (pc' := 5) rfl (by decide) rfl ?_
  refine Rn.step (pc' := 6) rfl rfl ?_
  refine Rn.getf (pc' := 9) rfl (IC_o8 h5.1) rfl rfl rfl ?_
  refine Rn.iconst (v := 0) (pc' := 10) rfl (by decide) rfl ?_
  refine Rn.iconst (v := 33) (pc' := 12) rfl (by decide) rfl ?_
  refine Rn.icopy (a0 := 9) (n0 := 33) (n1 := 33) (i := 9) (pc' := 15) rfl (by omega) h5 rfl (by omega) (fun _ => rfl) rfl (by omega) (Nat.zero_le 8) rfl ?_
  exact Rn.vret rfl (⟨rfl, rfl⟩)
theorem c_W_cpB {d a : Nat} {G : Nat → Nat → Int32} (hd : 1 ≤ d) (h5 : 50 ≤ a ∧ a + 12 ≤ xS) : Cl d j_World_copyFrom [.ref 8, .ref (a + 8)] (CC (IC m0 a G) F I L R H) (Pv (CC (IC m0 a G) F (va_up I 9 (va_cpy (G 9) (I 9) 0 0 33)) L R H)) := by
  show Rn d j_World_copyFrom 0 _ _ _ _
  refine Rn.step (pc' := 1) rfl rfl ?_
  refine Rn.getf (pc' := 4) rfl (IC_o8 h5.1) rfl rfl rfl ?_
  refine Rn.iconst (v := 0) (pc' := 5) rfl (by decide) rfl ?_
  refine Rn.step (pc' := 6) rfl rfl ?_
  refine Rn.getf (pc' := 9) rfl rfl rfl rfl rfl ?_
  refine Rn.iconst (v := 0) (pc' := 10) rfl (by decide) rfl ?_
  refine Rn.iconst (v := 33) (pc' := 12) rfl (by decide) rfl ?_
  refine Rn.bcopy (a1 := 9) (n0 := 33) (n1 := 33) (i := 9) (pc' := 15) rfl (by omega) h5 rfl (by omega) (fun _ => rfl) rfl (by omega) (Nat.zero_le 8) rfl ?_
  exact Rn.vret rfl (⟨rfl, rfl⟩)
theorem c_P_cpI {d a : Nat} {G : Nat → Nat → Int32} (hd : 1 ≤ d) (h5 : 50 ≤ a ∧ a + 12 ≤ xS) : Cl d j_Prints_copyFrom [.ref (a + 10), .ref 12] (CC (IC m0 a G) F I L R H) (Pv (CC (IC m0 a (va_up (va_up G 11 (va_cpy (I 13) (G 11) 0 0 40)) 10 (upd (G 10) 1 (F 12 1)))) F I L R H)) := by
  show Rn d j_Prints_copyFrom 0 _ _ _ _
  refine Rn.step (pc' := 1) rfl rfl ?_
  refine Rn.getf (pc' := 4) rfl rfl rfl rfl rfl ?_
  refine Rn.iconst (v := 0) (pc' := 5) rfl (by decide) rfl ?_
  refine Rn.step (pc' := 6) rfl rfl ?_
  refine Rn.getf (pc' := 9) rfl (IC_o10 h5.1) rfl rfl rfl ?_
  refine Rn.iconst (v := 0) (pc' := 10) rfl (by decide) rfl ?_
  refine Rn.step (pc' := 11) rfl rfl ?_
  refine Rn.getf (pc' := 14) rfl (IC_o10 h5.1) rfl rfl rfl ?_
  refine Rn.alen (pc' := 15) rfl (IC_at (i := 11) h5.1 (by omega)) (show (0 : Nat) < 7 by decide) rfl ?_
  refine Rn.icopy (a0 := 13) (n0 := 40) (n1 := 40) (i := 11) (pc' := 18) rfl (by omega) h5 rfl (by omega) (fun _ => rfl) rfl (by omega) (Nat.zero_le 8) rfl ?_
  refine Rn.step (pc' := 19) rfl rfl ?_
  refine Rn.step (pc' := 20) rfl rfl ?_
  refine Rn.getf (pc' := 23) rfl rfl rfl rfl rfl ?_
  refine Rn.iput (i := 10) (pc' := 26) rfl h5 (by omega) rfl rfl rfl rfl rfl ?_
  exact Rn.vret rfl (⟨rfl, rfl⟩)
theorem c_P_cpB {d a : Nat} {G : Nat → Nat → Int32} (hd : 1 ≤ d) (h5 : 50 ≤ a ∧ a + 12 ≤ xS) : Cl d j_Prints_copyFrom [.ref 12, .ref (a + 10)] (CC (IC m0 a G) F I L R H) (Pv (CC (IC m0 a G) (va_up F 12 (upd (F 12) 1 (G 10 1))) (va_up I 13 (va_cpy (G 11) (I 13) 0 0 40)) L R H)) := by
  show Rn d j_Prints_copyFrom 0 _ _ _ _
  refine Rn.step (pc' := 1) rfl rfl ?_
  refine Rn.getf (pc' := 4) rfl (IC_o10 h5.1) rfl rfl rfl ?_
  refine Rn.iconst (v := 0) (pc' := 5) rfl (by decide) rfl ?_
  refine Rn.step (pc' := 6) rfl rfl ?_
  refine Rn.getf (pc' := 9) rfl rfl rfl rfl rfl ?_
  refine Rn.iconst (v := 0) (pc' := 10) rfl (by decide) rfl ?_
  refine Rn.step (pc' := 11) rfl rfl ?_
  refine Rn.getf (pc' := 14) rfl rfl rfl rfl rfl ?_
  refine Rn.step (pc' := 15) rfl rfl ?_
  refine Rn.bcopy (a1 := 13) (n0 := 40) (n1 := 40) (i := 11) (pc' := 18) rfl (by omega) h5 rfl (by omega) (fun _ => rfl) rfl (by omega) (Nat.zero_le 8) rfl ?_
  refine Rn.step (pc' := 19) rfl rfl ?_
  refine Rn.step (pc' := 20) rfl rfl ?_
  refine Rn.getf (pc' := 23) rfl (IC_o10 h5.1) rfl rfl rfl ?_
  refine Rn.cput (pc' := 26) rfl rfl rfl rfl rfl (by decide) rfl ?_
  exact Rn.vret rfl (⟨rfl, rfl⟩)
end CT
