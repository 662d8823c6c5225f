/-! THE CLASS: a rule is read and made. -/
section DE
variable {m0 : xM} {F I : Nat → Nat → Int32} {L : Nat → Nat → Int64} {R : Nat → Nat → Option Nat} {H : Value} {s w : Nat → Int32} {o : Nat} {gg : Prop}
theorem r_read {n d : Nat} (hd : 44 ≤ d) (hS : STR0 m0) (hn : F 1 1 = nI n) (h4 : n ≤ 400) (hT : ∀ i, -128 ≤ I 2 i ∧ I 2 i ≤ 127) : Cl d j_RuleReader_read [.ref 3, .ref 1] (CC m0 F I L R H) (gO2 m0 F I L R H (I 2) n (gRd (I 2) n 13 (skE (I 2) n 0, 0, []) [])) := by
  show Rn d j_RuleReader_read 0 _ _ _ _
  refine Rn.step (pc' := 1) rfl rfl ?_
  refine Rn.iconst (v := 0) (pc' := 2) rfl (by decide) rfl ?_
  refine Rn.cput (pc' := 5) rfl rfl rfl rfl rfl (by decide) rfl ?_
  refine Rn.step (pc' := 6) rfl rfl ?_
  refine Rn.iconst (v := 0) (pc' := 7) rfl (by decide) rfl ?_
  refine Rn.cput (pc' := 10) rfl rfl rfl rfl rfl (by decide) rfl ?_
  rw [va_up_self, up_up]
  refine Rn.step (pc' := 11) rfl rfl ?_
  refine Rn.callV (pc' := 14) rfl (by decide) (by omega) rfl rfl rfl (c_T_open (n := n) (by omega) (by exact hn) h4) (fun r_ m_ hc_ => ?_)
  obtain ⟨rfl, f1, rfl, e1, e2⟩ := hc_
  refine Rn.iconst (v := 0) (pc' := 15) rfl (by decide) rfl ?_
  refine Rn.step (pc' := 16) rfl rfl ?_
  exact Rn.conseq (l_K_read hd hS 13 _ I (skE (I 2) n 0, 0, []) [] ⟨rfl, e1, rnE_le (Nat.zero_le _), h4, hT, rfl, rfl, Nat.zero_le _, fun i hi => absurd hi (Nat.not_lt_zero _)⟩ (Nat.zero_le _) rfl (Nat.zero_le _) (fun c q hq => nomatch hq)) (fun r m hg => hg.mono ⟨fun k a b => (up_ne _ _ a).trans (up_ne _ _ b), fun _ _ _ => rfl⟩)
section MK
variable {m : xM} {sl : Nat} {f : List xC}
theorem NM_old {a : Nat} (h : a < m.1) : (NM m sl f).2.2 a = m.2.2 a := by
  simp only [NM]
  rw [if_neg (by omega)]
theorem set_last {f : List xC} {c c' : xC} : (f ++ [c]).set f.length c' = f ++ [c'] := by
  rw [List.set_append_right _ _ (Nat.le_refl _), Nat.sub_self]
  rfl
theorem c_copyOf {d a N : Nat} {h : Nat → Int32} (hd : 1 ≤ d) (k : Nat) (ha : m.2.2 a = some (.inl (0, N, xints h))) (hne : a < m.1) (hm : m.1 + f.length < xS) (hk : k ≤ N ∧ N ≤ 1000) : Cl d j_Arrays_copyOf [.ref a, .int (nI k)] (NM m sl f) (fun r m2 => r = some (.ref (m.1 + f.length)) ∧ ∃ g, m2 = NM m (sl + k) (f ++ [.inl (0, k, xints g)]) ∧ ∀ i, i < k → g i = h i) := by
  show Rn d j_Arrays_copyOf 0 _ _ _ _
  refine Rn.step (pc' := 1) rfl rfl ?_
  refine Rn.step (pc' := 2) rfl rfl ?_
  refine Rn.alen (pc' := 3) rfl ((NM_old hne).trans ha) (by decide) rfl ?_
  refine Rn.icmp_ne (pc1 := 14) (pc2 := 6) rfl rfl rfl (fun h3 => ?_) (fun h3 => ?_)
  · have hkN : k < N := by
      have : ¬ k = N := fun z => h3 (congrArg nI z)
      omega
    have hl1 : (f ++ [(Sum.inl (0, k, xints fun _ => 0) : xC)]).length = f.length + 1 := by rw [List.length_append]; rfl
    refine Rn.step (pc' := 15) rfl rfl ?_
    refine Rn.nnewa (n := f.length) (k := k) (sl' := sl + k) (f' := f ++ [.inl (0, k, xints fun _ => 0)]) (pc' := 17) rfl rfl hm rfl (by omega) rfl rfl rfl ?_
    refine Rn.step (pc' := 18) rfl rfl ?_
    refine Rn.step (pc' := 19) rfl rfl ?_
    refine Rn.iconst (v := 0) (pc' := 20) rfl (by decide) rfl ?_
    refine Rn.step (pc' := 21) rfl rfl ?_
    refine Rn.iconst (v := 0) (pc' := 22) rfl (by decide) rfl ?_
    refine Rn.step (pc' := 23) rfl rfl ?_
    refine Rn.alen (pc' := 24) rfl ((NM_old hne).trans ha) (by decide) rfl ?_
    refine Rn.step (pc' := 25) rfl rfl ?_
    refine Rn.si (pc' := 28) rfl (by decide) (by omega) rfl rfl ((show Cl (d - 1) j_Math_min [.int (nI N), .int (nI k)] _ (Pi (nI k) _) from (if_pos ((nI_ltI (a := k) (b := N) (by omega) (by omega)).mpr hkN)) ▸ c_min (nI N) (nI k))) ?_
    refine Rn.xcp (a0 := a) (a1 := m.1 + f.length) (n0 := N) (n1 := k) (n := k) (pc' := 31) rfl (by omega) ((NM_old hne).trans ha) ((NM_at (by omega)).trans (by rw [List.getElem?_append_right (Nat.le_refl _), Nat.sub_self]; rfl)) ⟨by omega, hm⟩ rfl (by omega) (Nat.zero_le 8) rfl ?_
    rw [NM_set (by omega), set_last]
    refine Rn.step (pc' := 32) rfl rfl ?_
    exact Rn.aret rfl (hm) (⟨rfl, _, rfl, fun i hi => cpy0 hi⟩)
  · obtain rfl : k = N := (nI_eq (by omega) (by omega)).mp h3
    refine Rn.step (pc' := 7) rfl rfl ?_
    refine Rn.clone (pc' := 10) (m' := NM m (sl + k) (f ++ [.inl (0, k, xints h)])) (ls' := _) (st' := [.ref (m.1 + f.length)]) rfl (by omega) (by
      rw [← NM_new]
      simp only [x_clone]
      rw [if_pos (show a < xS ∧ (NM m sl f).1 < xS ∧ xcat [] ≤ 8 from ⟨by omega, hm, by decide⟩), (NM_old hne).trans ha]
      rfl) ?_
    refine Rn.step (pc' := 13) (m' := NM m (sl + k) (f ++ [.inl (0, k, xints h)])) (ls' := _) (st' := [.ref (m.1 + f.length)]) rfl (by
      have e : (NM m (sl + k) (f ++ [.inl (0, k, xints h)])).2.2 (m.1 + f.length) = some (.inl (0, k, xints h)) := (NM_at (by rw [List.length_append]; exact Nat.lt_succ_self _)).trans (by rw [List.getElem?_append_right (Nat.le_refl _), Nat.sub_self]; rfl)
      simp only [xs, x_cast]
      rw [if_pos hm, e]
      rfl) ?_
    exact Rn.aret rfl hm ⟨rfl, h, rfl, fun _ _ => rfl⟩
end MK
set_option maxHeartbeats 4000000 in
theorem c_RuleI {d k1 k2 sl : Nat} {m : xM} {g1 g2 : Nat → Int32} (hd : 1 ≤ d) (hm : m.1 + 3 ≤ xS) : Cl d j_Rule_init [.ref (m.1 + 0), .ref (m.1 + 1), .ref (m.1 + 2)] (NM m sl [.inr (6, [.null, .null]), .inl (0, k1, xints g1), .inl (0, 2 * k2, xints g2)]) (Pv (NM m sl [.inr (6, [.ref (m.1 + 1), .ref (m.1 + 2)]), .inl (0, k1, xints g1), .inl (0, 2 * k2, xints g2)])) := by
  show Rn d j_Rule_init 0 _ _ _ _
  refine Rn.step (pc' := 1) rfl rfl ?_
  refine Rn.objInit (pc' := 4) rfl (by omega) ⟨Nat.zero_le 8, by omega⟩ rfl ?_
  refine Rn.step (pc' := 5) rfl rfl ?_
  refine Rn.step (pc' := 6) rfl rfl ?_
  refine Rn.nput (i := 0) (f' := [.inr (6, [.ref (m.1 + 1), .null]), .inl (0, k1, xints g1), .inl (0, 2 * k2, xints g2)]) (pc' := 9) rfl (by omega) rfl rfl ⟨rfl, rfl⟩ rfl rfl rfl ?_
  refine Rn.step (pc' := 10) rfl rfl ?_
  refine Rn.step (pc' := 11) rfl rfl ?_
  refine Rn.nput (i := 0) (f' := [.inr (6, [.ref (m.1 + 1), .ref (m.1 + 2)]), .inl (0, k1, xints g1), .inl (0, 2 * k2, xints g2)]) (pc' := 14) rfl (by omega) rfl rfl ⟨rfl, rfl⟩ rfl rfl rfl ?_
  exact Rn.retv rfl rfl
theorem r_made {d k1 k2 : Nat} (hd : 3 ≤ d) (h5 : 50 ≤ m0.1) (hm : m0.1 + 3 ≤ xS) (h1 : F 3 2 = nI k1) (h2 : F 3 3 = nI k2) (hk1 : k1 ≤ 400) (hk2 : k2 ≤ 12) : Cl d j_RuleReader_made [.ref 3] (CC m0 F I L R H) (fun r m2 => r = some (.ref m0.1) ∧ ∃ g1 g2, m2 = NM (CC m0 F I L R H) (2 + k1 + 2 * k2) [.inr (6, [.ref (m0.1 + 1), .ref (m0.1 + 2)]), .inl (0, k1, xints g1), .inl (0, 2 * k2, xints g2)] ∧ (∀ i, i < k1 → g1 i = I 4 i) ∧ ∀ i, i < 2 * k2 → g2 i = I 5 i) := by
  show Rn d j_RuleReader_made 0 _ _ _ _
  refine Rn.mm NM_nil.symm ?_
  refine Rn.nnew (n := 0) (sl' := 2) (f' := [.inr (6, [.null, .null])]) (pc' := 3) rfl rfl (show m0.1 + 0 < xS by omega) rfl rfl rfl ?_
  refine Rn.step (pc' := 4) rfl rfl ?_
  refine Rn.step (pc' := 5) rfl rfl ?_
  refine Rn.getf (pc' := 8) rfl ((NM_old (m := CC m0 F I L R H) (show 3 < m0.1 by omega)).trans (CC_O (a := 3) rfl)) rfl rfl rfl ?_
  refine Rn.step (pc' := 9) rfl rfl ?_
  refine Rn.getf (pc' := 12) rfl ((NM_old (m := CC m0 F I L R H) (show 3 < m0.1 by omega)).trans (CC_O (a := 3) rfl)) rfl rfl rfl ?_
  rw [h1]
  refine Rn.callS (pc' := 15) rfl (by decide) (by omega) rfl rfl (c_copyOf (m := CC m0 F I L R H) (a := 4) (N := 400) (h := I 4) (by omega) k1 (CC_I (a := 4) (q := (0, 400)) rfl) (show 4 < m0.1 by omega) (show m0.1 + 1 < xS by omega) (by omega)) (fun r_ m_ hc_ => ?_)
  obtain ⟨rfl, g1, rfl, hg1⟩ := hc_
  refine Rn.step (pc' := 16) rfl rfl ?_
  refine Rn.getf (pc' := 19) rfl ((NM_old (m := CC m0 F I L R H) (show 3 < m0.1 by omega)).trans (CC_O (a := 3) rfl)) rfl rfl rfl ?_
  refine Rn.iconst (v := 2) (pc' := 20) rfl (by decide) rfl ?_
  refine Rn.step (pc' := 21) rfl rfl ?_
  refine Rn.getf (pc' := 24) rfl ((NM_old (m := CC m0 F I L R H) (show 3 < m0.1 by omega)).trans (CC_O (a := 3) rfl)) rfl rfl rfl ?_
  refine Rn.imul (pc' := 25) rfl rfl ?_
  rw [show (2 : Int32) * F 3 3 = nI (2 * k2) by rw [h2]; exact pk_mul 2 k2]
  refine Rn.callS (pc' := 28) rfl (by decide) (by omega) rfl rfl (c_copyOf (m := CC m0 F I L R H) (a := 5) (N := 24) (h := I 5) (by omega) (2 * k2) (CC_I (a := 5) (q := (0, 24)) rfl) (show 5 < m0.1 by omega) (show m0.1 + 2 < xS by omega) (by omega)) (fun r_ m_ hc_ => ?_)
  obtain ⟨rfl, g2, rfl, hg2⟩ := hc_
  refine Rn.callI (pc' := 31) rfl (by decide) (by omega) rfl (decide_eq_true (show m0.1 + 0 < xS by omega)) rfl (c_RuleI (m := (CC m0 F I L R H)) (k1 := k1) (k2 := k2) (sl := 2 + k1 + 2 * k2) (g1 := g1) (g2 := g2) (by omega) (show m0.1 + 3 ≤ xS by omega)) (fun r_ m_ hc_ => ?_)
  obtain ⟨rfl, rfl⟩ := hc_
  exact Rn.aret rfl (show m0.1 < xS by omega) ⟨rfl, g1, g2, rfl, hg1, hg2⟩
end DE
