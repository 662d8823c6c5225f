/-! THE CLASS: when to cobble. -/
section CI0
variable {m0 : xM} {F I : Nat → Nat → Int32} {L : Nat → Nat → Int64} {R : Nat → Nat → Option Nat} {H : Value} {s w : Nat → Int32} {o : Nat} {gg : Prop}
/-- the least of a row of numbers, and its latest place -/
def IsM (v : Nat → Int32) (lo hi : Nat) (m : Int32) : Prop := (∃ i, lo ≤ i ∧ i ≤ hi ∧ m = v i) ∧ ∀ j, lo ≤ j → j ≤ hi → ¬ v j < m
def IsL (v : Nat → Int32) (lo hi i : Nat) : Prop := lo ≤ i ∧ i ≤ hi ∧ (∀ j, lo ≤ j → j ≤ hi → ¬ v j < v i) ∧ ∀ j, i < j → j ≤ hi → v i < v j
theorem I32_anti {a b : Int32} (h : ¬ a < b) (g : ¬ b < a) : a = b := by
  apply Int32.toInt_inj.mp
  rw [Int32.lt_iff_toInt_lt] at h g
  omega
theorem I32_le_lt {a b c : Int32} (h : ¬ b < a) (g : b < c) : a < c := by
  rw [Int32.lt_iff_toInt_lt] at h g ⊢
  omega
theorem I32_nlt_tr {a b c : Int32} (h : ¬ a < b) (g : ¬ b < c) : ¬ a < c := by
  rw [Int32.lt_iff_toInt_lt] at h g ⊢
  omega
theorem IsM.uniq {v : Nat → Int32} {lo hi : Nat} {m n : Int32} (h : IsM v lo hi m) (g : IsM v lo hi n) : m = n := by
  obtain ⟨⟨i, a1, a2, rfl⟩, a3⟩ := h
  obtain ⟨⟨k, b1, b2, rfl⟩, b3⟩ := g
  exact I32_anti (b3 i a1 a2) (a3 k b1 b2)
theorem IsL.m {v : Nat → Int32} {lo hi i : Nat} (h : IsL v lo hi i) : IsM v lo hi (v i) := ⟨⟨i, h.1, h.2.1, rfl⟩, h.2.2.1⟩
theorem IsL.uniq {v : Nat → Int32} {lo hi i k : Nat} (h : IsL v lo hi i) (g : IsL v lo hi k) : i = k := by
  rcases Nat.lt_trichotomy i k with e | e | e
  · exact absurd (h.2.2.2 k e g.2.1) (g.2.2.1 i h.1 h.2.1)
  · exact e
  · exact absurd (g.2.2.2 i e h.2.1) (h.2.2.1 k g.1 g.2.1)
/-- going up -/
theorem IsL.up {v : Nat → Int32} {lo hi i : Nat} (h : IsL v lo hi i) : (¬ v i < v (hi + 1) → IsL v lo (hi + 1) (hi + 1)) ∧ (v i < v (hi + 1) → IsL v lo (hi + 1) i) := by
  obtain ⟨h1, h2, h3, h4⟩ := h
  refine ⟨fun g => ⟨by omega, Nat.le_refl _, fun j a b => ?_, fun j a b => absurd a (by omega)⟩, fun g => ⟨h1, by omega, fun j a b => ?_, fun j a b => ?_⟩⟩
  · by_cases e : j = hi + 1
    · subst e
      exact fun z => by rw [Int32.lt_iff_toInt_lt] at z; omega
    · exact I32_nlt_tr (h3 j a (by omega)) g
  · by_cases e : j = hi + 1
    · subst e
      exact fun z => by rw [Int32.lt_iff_toInt_lt] at z g; omega
    · exact h3 j a (by omega)
  · by_cases e : j = hi + 1
    · subst e
      exact g
    · exact h4 j a (by omega)
theorem IsL.one (v : Nat → Int32) (n : Nat) : IsL v n n n := ⟨Nat.le_refl _, Nat.le_refl _, fun j a b => by
  obtain rfl : j = n := by omega
  exact fun z => by rw [Int32.lt_iff_toInt_lt] at z; omega, fun j a b => absurd a (by omega)⟩
/-- going down -/
theorem IsL.dn {v : Nat → Int32} {lo hi i : Nat} (h : IsL v (lo + 1) hi i) : (v lo < v i → IsL v lo hi lo) ∧ (¬ v lo < v i → IsL v lo hi i) := by
  obtain ⟨h1, h2, h3, h4⟩ := h
  refine ⟨fun g => ⟨Nat.le_refl _, by omega, fun j a b => ?_, fun j a b => ?_⟩, fun g => ⟨by omega, h2, fun j a b => ?_, h4⟩⟩
  · by_cases e : j = lo
    · subst e
      exact fun z => by rw [Int32.lt_iff_toInt_lt] at z; omega
    · have := h3 j (by omega) b
      exact fun z => by rw [Int32.lt_iff_toInt_lt] at this z g; omega
  · have := h3 j (by omega) b
    rw [Int32.lt_iff_toInt_lt] at this g ⊢
    omega
  · by_cases e : j = lo
    · subst e
      exact g
    · exact h3 j (by omega) b
theorem IsM.congr {v u : Nat → Int32} {lo hi : Nat} {m : Int32} (h : IsM v lo hi m) (e : ∀ j, lo ≤ j → j ≤ hi → v j = u j) : IsM u lo hi m := by
  obtain ⟨⟨i, a1, a2, rfl⟩, a3⟩ := h
  exact ⟨⟨i, a1, a2, e i a1 a2⟩, fun j b1 b2 => by rw [← e j b1 b2]; exact a3 j b1 b2⟩
theorem IsL.congr {v u : Nat → Int32} {lo hi i : Nat} (h : IsL v lo hi i) (e : ∀ j, lo ≤ j → j ≤ hi → v j = u j) : IsL u lo hi i := by
  obtain ⟨h1, h2, h3, h4⟩ := h
  exact ⟨h1, h2, fun j a b => by rw [← e j a b, ← e i h1 h2]; exact h3 j a b, fun j a b => by rw [← e j (by omega) b, ← e i h1 h2]; exact h4 j a b⟩
/-- what a day costs on which it is cobbled first -/
def cbv (sole worn ww f : Int32) (G : Nat → Int32) (fr : Nat) : Nat → Int32 := fun dy => hCs sole worn ww f (dy - fr) + G dy
theorem inL_M (sole ww f : Int32) (C : Nat → Int32) (N dd : Nat) (hN : dd < N) {G : Nat → Int32} (hG : G N = 0) (hC : ∀ e, dd < e → e < N → G e = C e) : ∀ j, dd + j < N → (∃ i, (i = N ∨ (dd + 1 ≤ i ∧ i ≤ dd + j)) ∧ inL sole ww f C N dd j = cbv sole 0 ww f G dd i) ∧ ∀ i, (i = N ∨ (dd + 1 ≤ i ∧ i ≤ dd + j)) → ¬ cbv sole 0 ww f G dd i < inL sole ww f C N dd j
  | 0, _ => by
    have e0 : inL sole ww f C N dd 0 = cbv sole 0 ww f G dd N := by
      unfold cbv
      rw [hG, Int32.add_zero]
      rfl
    refine ⟨⟨N, Or.inl rfl, e0⟩, fun i hi => ?_⟩
    obtain rfl : i = N := by omega
    rw [e0]
    exact fun z => by rw [Int32.lt_iff_toInt_lt] at z; omega
  | j + 1, h => by
    obtain ⟨⟨i, hi, e⟩, hm⟩ := inL_M sole ww f C N dd hN hG hC j (by omega)
    have ev : hCs sole 0 ww f (j + 1) + C (dd + 1 + j) = cbv sole 0 ww f G dd (dd + 1 + j) := by
      unfold cbv
      rw [hC (dd + 1 + j) (by omega) (by omega), show dd + 1 + j - dd = j + 1 by omega]
    rw [inL_s, ev]
    split
    · rename_i hlt
      refine ⟨⟨dd + 1 + j, Or.inr (by omega), rfl⟩, fun k hk => ?_⟩
      by_cases ek : k = dd + 1 + j
      · subst ek
        exact fun z => by rw [Int32.lt_iff_toInt_lt] at z; omega
      · have := hm k (by omega)
        exact fun z => by rw [Int32.lt_iff_toInt_lt] at this hlt z; omega
    · rename_i hlt
      refine ⟨⟨i, by omega, e⟩, fun k hk => ?_⟩
      by_cases ek : k = dd + 1 + j
      · subst ek
        exact hlt
      · exact hm k (by omega)
theorem inL_IsM {sole ww f : Int32} {C G : Nat → Int32} {N dd : Nat} (hN : dd < N) (hG : G N = 0) (hC : ∀ e, dd < e → e < N → G e = C e) : IsM (cbv sole 0 ww f G dd) (dd + 1) N (inL sole ww f C N dd (N - 1 - dd)) := by
  obtain ⟨⟨i, hi, e⟩, hm⟩ := inL_M sole ww f C N dd hN hG hC (N - 1 - dd) (by omega)
  exact ⟨⟨i, by omega, by omega, e⟩, fun j a b => hm j (by omega)⟩
/-- who and what, of the model's walk down -/
theorem cbE_L {sole worn ww f : Int32} {C G : Nat → Int32} {N : Nat} (hN : N < 1000) (hG : G N = 0) (hC : ∀ e, e < N → G e = C e) : ∀ k, k ≤ N → ∃ i, IsL (cbv sole worn ww f G 0) (N - k) N i ∧ (cbE sole worn ww f C N k).2 = cbv sole worn ww f G 0 i ∧ (cbE sole worn ww f C N k).1 = if i < N then nI i else -1
  | 0, _ => by
    refine ⟨N, IsL.one _ N, ?_, by rw [if_neg (by omega)]; rfl⟩
    unfold cbv
    rw [hG, Int32.add_zero]
    rfl
  | k + 1, hk => by
    obtain ⟨i, h1, h2, h3⟩ := cbE_L hN hG hC k (by omega)
    have ev : hCs sole worn ww f (N - 1 - k) + C (N - 1 - k) = cbv sole worn ww f G 0 (N - 1 - k) := by
      unfold cbv
      rw [hC (N - 1 - k) (by omega)]
      rfl
    have hd : IsL (cbv sole worn ww f G 0) (N - 1 - k + 1) N i := by
      rw [show N - 1 - k + 1 = N - k by omega]
      exact h1
    rw [cbE_s, ev, h2, show N - (k + 1) = N - 1 - k by omega]
    split
    · rename_i hlt
      exact ⟨N - 1 - k, hd.dn.1 hlt, rfl, by rw [if_pos (by omega)]⟩
    · rename_i hlt
      exact ⟨i, hd.dn.2 hlt, h2, h3⟩
/-- sums that stay small -/
theorem I32_addI {a b : Int32} (h1 : -2147483648 ≤ a.toInt + b.toInt) (h2 : a.toInt + b.toInt ≤ 2147483647) : (a + b).toInt = a.toInt + b.toInt := by
  rw [Int32.toInt_add]
  exact Int.bmod_eq_of_le (by omega) (by omega)
theorem hCs_bd {sole worn ww f : Int32} (hf : 0 ≤ f ∧ f ≤ 99) : ∀ k : Nat, k ≤ 30 → 0 ≤ (hCs sole worn ww f k).toInt ∧ (hCs sole worn ww f k).toInt ≤ 99 * (k : Int)
  | 0, _ => by
    show 0 ≤ (0 : Int32).toInt ∧ (0 : Int32).toInt ≤ 99 * ((0 : Nat) : Int)
    decide
  | k + 1, h => by
    have ih := hCs_bd (sole := sole) (worn := worn) (ww := ww) hf k (by omega)
    have f0 := Int32.le_iff_toInt_le.mp hf.1
    have f1 := Int32.le_iff_toInt_le.mp hf.2
    have z0 : (0 : Int32).toInt = 0 := by decide
    have z9 : (99 : Int32).toInt = 99 := by decide
    rw [hCs_s]
    split
    · rw [Int32.add_zero]
      omega
    · rw [I32_addI (by omega) (by omega)]
      omega
theorem cbv_bd {sole worn ww f : Int32} {G : Nat → Int32} {fr dy : Nat} (hf : 0 ≤ f ∧ f ≤ 99) (hk : dy - fr ≤ 30) (hG : (G dy).toInt ≤ 3069) : ¬ (1000000 : Int32) < cbv sole worn ww f G fr dy := by
  have h := hCs_bd (sole := sole) (worn := worn) (ww := ww) hf (dy - fr) hk
  have g := Int32.le_toInt (G dy)
  have e : (cbv sole worn ww f G fr dy).toInt = (hCs sole worn ww f (dy - fr)).toInt + (G dy).toInt := I32_addI (by omega) (by omega)
  rw [Int32.lt_iff_toInt_lt, show (1000000 : Int32).toInt = 1000000 by decide]
  omega
theorem cbv_lst {sole ww f c : Int32} {G : Nat → Int32} {N dd i : Nat} (hf : 0 ≤ f ∧ f ≤ 99) (hc : 0 ≤ c ∧ c ≤ 99) (hN : N ≤ 30) (hG : G N = 0) (hL : IsL (cbv sole 0 ww f G dd) (dd + 1) N i) : (c + cbv sole 0 ww f G dd i).toInt ≤ 3069 := by
  have h := hCs_bd (sole := sole) (worn := 0) (ww := ww) hf (N - dd) (by omega)
  have e : cbv sole 0 ww f G dd N = hCs sole 0 ww f (N - dd) := by
    show hCs sole 0 ww f (N - dd) + G N = _
    rw [hG, Int32.add_zero]
  have hm := hL.2.2.1 N (Nat.le_trans hL.1 hL.2.1) (Nat.le_refl _)
  rw [e, Int32.lt_iff_toInt_lt] at hm
  have c0 := Int32.le_iff_toInt_le.mp hc.1
  have c1 := Int32.le_iff_toInt_le.mp hc.2
  have z0 : (0 : Int32).toInt = 0 := by decide
  have z9 : (99 : Int32).toInt = 99 := by decide
  have g := Int32.le_toInt (cbv sole 0 ww f G dd i)
  rw [I32_addI (by omega) (by omega)]
  omega
set_option maxHeartbeats 4000000 in
theorem l_T_cu {F : Nat → Nat → Int32} {d N fr nx : Nat} {sole worn ww f : Int32} {G : Nat → Int32} (hG : I 28 = G) (hN : N ≤ 30) (hfr : fr ≤ nx) (hnx : nx ≤ N) (hb : ¬ (1000000 : Int32) < cbv sole worn ww f G fr nx) (D : Nat) (hfD : fr ≤ D) (hD : D ≤ N + 1) {best : Int32} (hst : (D ≤ nx ∧ best = 1000000) ∨ (nx < D ∧ ∃ i, IsL (cbv sole worn ww f G fr) nx (D - 1) i ∧ best = cbv sole worn ww f G fr i ∧ F 24 3 = if i < N then nI i else -1)) : Rn d j_Trials_costUntilCobbled 14 [.ref 24, .int sole, .int worn, .int ww, .int f, .int (nI fr), .int (nI nx), .int (nI N), .int (worn + nI (D - fr) * ww), .int (hCs sole worn ww f (D - fr)), .int best, .int (nI D)] [] (CC m0 F I L R H) (fun r m2 => ∃ i F1, IsL (cbv sole worn ww f G fr) nx N i ∧ r = some (.int (cbv sole worn ww f G fr i)) ∧ (∀ k, k ≠ 24 → F1 k = F k) ∧ (F1 24 3 = if i < N then nI i else -1) ∧ m2 = CC m0 F1 I L R H) := by
  refine Rn.step (pc' := 16) rfl rfl ?_
  refine Rn.step (pc' := 18) rfl rfl ?_
  refine Rn.icmp_gt (pc1 := 101) (pc2 := 21) rfl rfl rfl (fun h18 => ?_) (fun h18 => ?_)
  · have hD2 : D = N + 1 := by
      have := (nI_ltI (a := N) (b := D) (by omega) (by omega)).mp h18
      omega
    obtain ⟨i, b, c, e⟩ := (hst.resolve_left (fun z => by omega)).2
    refine Rn.step (pc' := 103) rfl rfl ?_
    exact Rn.iret rfl (rfl) (⟨i, F, by rw [hD2] at b; exact b, by rw [c], fun _ _ => rfl, e, rfl⟩)
  · have hD2 : D ≤ N := by
      have := mt (nI_ltI (a := N) (b := D) (by omega) (by omega)).mpr h18
      omega
    refine Rn.step (pc' := 23) rfl rfl ?_
    refine Rn.step (pc' := 25) rfl rfl ?_
    refine Rn.icmp_lt (pc1 := 72) (pc2 := 28) rfl rfl rfl (fun h25 => ?_) (fun h25 => ?_)
    · refine Rn.step (pc' := 74) rfl rfl ?_
      refine Rn.step (pc' := 75) rfl rfl ?_
      refine Rn.iadd (pc' := 76) rfl rfl ?_
      refine Rn.step (pc' := 78) rfl rfl ?_
      refine Rn.step (pc' := 80) rfl rfl ?_
      refine Rn.step (pc' := 82) rfl rfl ?_
      refine Rn.step (pc' := 83) rfl rfl ?_
      refine Rn.icmp_lt (pc1 := 91) (pc2 := 86) rfl rfl rfl (fun h83 => ?_) (fun h83 => ?_)
      · refine Rn.iconst (v := 0) (pc' := 92) rfl (by decide) rfl ?_
        refine Rn.iadd (pc' := 93) rfl rfl ?_
        refine Rn.step (pc' := 95) rfl rfl ?_
        refine Rn.step (pc' := 98) rfl rfl ?_
        refine Rn.step (pc' := 14) rfl rfl ?_
        have ew : worn + nI (D - fr) * ww + ww = worn + nI (D + 1 - fr) * ww := by rw [show D + 1 - fr = (D - fr) + 1 by omega, ← nI_1, Int32.add_mul, Int32.one_mul, Int32.add_assoc]
        have h83x := h83
        rw [ew] at h83x
        have hdn : D < nx := (nI_ltI (by omega) (by omega)).mp h25
        refine Rn.ls12 rfl rfl rfl rfl rfl rfl rfl rfl (congrArg Value.int ew) (congrArg Value.int (a₂ := hCs sole worn ww f (D + 1 - fr)) (by rw [show D + 1 - fr = (D - fr) + 1 by omega, hCs_s, show D - fr + 1 = D + 1 - fr by omega, if_pos h83x])) rfl (congrArg Value.int (nI_i1 D)) ?_
        exact (l_T_cu hG hN hfr hnx hb (D + 1) (by omega) (by omega) (Or.inl ⟨by omega, (hst.resolve_right (fun z => by omega)).2⟩)).conseq (fun r_ m_ hx => by
          obtain ⟨i, F1, z1, z2, z3, z4, z5⟩ := hx
          exact ⟨i, F1, z1, z2, z3, z4, z5⟩)
      · refine Rn.step (pc' := 88) rfl rfl ?_
        refine Rn.step (pc' := 92) rfl rfl ?_
        refine Rn.iadd (pc' := 93) rfl rfl ?_
        refine Rn.step (pc' := 95) rfl rfl ?_
        refine Rn.step (pc' := 98) rfl rfl ?_
        refine Rn.step (pc' := 14) rfl rfl ?_
        have ew : worn + nI (D - fr) * ww + ww = worn + nI (D + 1 - fr) * ww := by rw [show D + 1 - fr = (D - fr) + 1 by omega, ← nI_1, Int32.add_mul, Int32.one_mul, Int32.add_assoc]
        have h83x := h83
        rw [ew] at h83x
        have hdn : D < nx := (nI_ltI (by omega) (by omega)).mp h25
        refine Rn.ls12 rfl rfl rfl rfl rfl rfl rfl rfl (congrArg Value.int ew) (congrArg Value.int (a₂ := hCs sole worn ww f (D + 1 - fr)) (by rw [show D + 1 - fr = (D - fr) + 1 by omega, hCs_s, show D - fr + 1 = D + 1 - fr by omega, if_neg h83x])) rfl (congrArg Value.int (nI_i1 D)) ?_
        exact (l_T_cu hG hN hfr hnx hb (D + 1) (by omega) (by omega) (Or.inl ⟨by omega, (hst.resolve_right (fun z => by omega)).2⟩)).conseq (fun r_ m_ hx => by
          obtain ⟨i, F1, z1, z2, z3, z4, z5⟩ := hx
          exact ⟨i, F1, z1, z2, z3, z4, z5⟩)
    · refine Rn.step (pc' := 30) rfl rfl ?_
      refine Rn.step (pc' := 31) rfl rfl ?_
      refine Rn.getf (pc' := 34) rfl rfl rfl rfl rfl ?_
      refine Rn.step (pc' := 36) rfl rfl ?_
      refine Rn.cald (k := D) (pc' := 37) rfl rfl (by simp only [nI_lit, nI_add, pk_mul, Nat.zero_add]) (by omega) (congrFun hG D) (by decide) rfl ?_
      refine Rn.iadd (pc' := 38) rfl rfl ?_
      refine Rn.step (pc' := 40) rfl rfl ?_
      refine Rn.icmp_gt (pc1 := 72) (pc2 := 43) rfl rfl rfl (fun h40 => ?_) (fun h40 => ?_)
      · refine Rn.step (pc' := 74) rfl rfl ?_
        refine Rn.step (pc' := 75) rfl rfl ?_
        refine Rn.iadd (pc' := 76) rfl rfl ?_
        refine Rn.step (pc' := 78) rfl rfl ?_
        refine Rn.step (pc' := 80) rfl rfl ?_
        refine Rn.step (pc' := 82) rfl rfl ?_
        refine Rn.step (pc' := 83) rfl rfl ?_
        refine Rn.icmp_lt (pc1 := 91) (pc2 := 86) rfl rfl rfl (fun h83 => ?_) (fun h83 => ?_)
        · refine Rn.iconst (v := 0) (pc' := 92) rfl (by decide) rfl ?_
          refine Rn.iadd (pc' := 93) rfl rfl ?_
          refine Rn.step (pc' := 95) rfl rfl ?_
          refine Rn.step (pc' := 98) rfl rfl ?_
          refine Rn.step (pc' := 14) rfl rfl ?_
          have ew : worn + nI (D - fr) * ww + ww = worn + nI (D + 1 - fr) * ww := by rw [show D + 1 - fr = (D - fr) + 1 by omega, ← nI_1, Int32.add_mul, Int32.one_mul, Int32.add_assoc]
          have h83x := h83
          rw [ew] at h83x
          have hdn : nx ≤ D := by
            have := mt (nI_ltI (a := D) (b := nx) (by omega) (by omega)).mpr h25
            omega
          have evD : hCs sole worn ww f (D - fr) + G D = cbv sole worn ww f G fr D := rfl
          obtain ⟨hlt, i, b, c, e⟩ : nx < D ∧ ∃ i, IsL (cbv sole worn ww f G fr) nx (D - 1) i ∧ best = cbv sole worn ww f G fr i ∧ F 24 3 = if i < N then nI i else -1 := by
            rcases hst with ⟨a, b⟩ | h
            · rw [b] at h40
              obtain rfl : D = nx := by omega
              exact absurd h40 hb
            · exact h
          have hL : IsL (cbv sole worn ww f G fr) nx D i := by
            have := b.up
            rw [show D - 1 + 1 = D by omega] at this
            refine this.2 ?_
            rw [← c]
            exact h40
          refine Rn.ls12 rfl rfl rfl rfl rfl rfl rfl rfl (congrArg Value.int ew) (congrArg Value.int (a₂ := hCs sole worn ww f (D + 1 - fr)) (by rw [show D + 1 - fr = (D - fr) + 1 by omega, hCs_s, show D - fr + 1 = D + 1 - fr by omega, if_pos h83x])) rfl (congrArg Value.int (nI_i1 D)) ?_
          exact (l_T_cu hG hN hfr hnx hb (D + 1) (by omega) (by omega) (Or.inr ⟨by omega, i, by rw [show D + 1 - 1 = D by omega]; exact hL, c, e⟩)).conseq (fun r_ m_ hx => by
            obtain ⟨i, F1, z1, z2, z3, z4, z5⟩ := hx
            exact ⟨i, F1, z1, z2, z3, z4, z5⟩)
        · refine Rn.step (pc' := 88) rfl rfl ?_
          refine Rn.step (pc' := 92) rfl rfl ?_
          refine Rn.iadd (pc' := 93) rfl rfl ?_
          refine Rn.step (pc' := 95) rfl rfl ?_
          refine Rn.step (pc' := 98) rfl rfl ?_
          refine Rn.step (pc' := 14) rfl rfl ?_
          have ew : worn + nI (D - fr) * ww + ww = worn + nI (D + 1 - fr) * ww := by rw [show D + 1 - fr = (D - fr) + 1 by omega, ← nI_1, Int32.add_mul, Int32.one_mul, Int32.add_assoc]
          have h83x := h83
          rw [ew] at h83x
          have hdn : nx ≤ D := by
            have := mt (nI_ltI (a := D) (b := nx) (by omega) (by omega)).mpr h25
            omega
          have evD : hCs sole worn ww f (D - fr) + G D = cbv sole worn ww f G fr D := rfl
          obtain ⟨hlt, i, b, c, e⟩ : nx < D ∧ ∃ i, IsL (cbv sole worn ww f G fr) nx (D - 1) i ∧ best = cbv sole worn ww f G fr i ∧ F 24 3 = if i < N then nI i else -1 := by
            rcases hst with ⟨a, b⟩ | h
            · rw [b] at h40
              obtain rfl : D = nx := by omega
              exact absurd h40 hb
            · exact h
          have hL : IsL (cbv sole worn ww f G fr) nx D i := by
            have := b.up
            rw [show D - 1 + 1 = D by omega] at this
            refine this.2 ?_
            rw [← c]
            exact h40
          refine Rn.ls12 rfl rfl rfl rfl rfl rfl rfl rfl (congrArg Value.int ew) (congrArg Value.int (a₂ := hCs sole worn ww f (D + 1 - fr)) (by rw [show D + 1 - fr = (D - fr) + 1 by omega, hCs_s, show D - fr + 1 = D + 1 - fr by omega, if_neg h83x])) rfl (congrArg Value.int (nI_i1 D)) ?_
          exact (l_T_cu hG hN hfr hnx hb (D + 1) (by omega) (by omega) (Or.inr ⟨by omega, i, by rw [show D + 1 - 1 = D by omega]; exact hL, c, e⟩)).conseq (fun r_ m_ hx => by
            obtain ⟨i, F1, z1, z2, z3, z4, z5⟩ := hx
            exact ⟨i, F1, z1, z2, z3, z4, z5⟩)
      · refine Rn.step (pc' := 45) rfl rfl ?_
        refine Rn.step (pc' := 46) rfl rfl ?_
        refine Rn.getf (pc' := 49) rfl rfl rfl rfl rfl ?_
        refine Rn.step (pc' := 51) rfl rfl ?_
        refine Rn.cald (k := D) (pc' := 52) rfl rfl (by simp only [nI_lit, nI_add, pk_mul, Nat.zero_add]) (by omega) (congrFun hG D) (by decide) rfl ?_
        refine Rn.iadd (pc' := 53) rfl rfl ?_
        refine Rn.step (pc' := 55) rfl rfl ?_
        refine Rn.step (pc' := 56) rfl rfl ?_
        refine Rn.step (pc' := 58) rfl rfl ?_
        refine Rn.step (pc' := 60) rfl rfl ?_
        refine Rn.icmp_ge (pc1 := 68) (pc2 := 63) rfl rfl rfl (fun h60 => ?_) (fun h60 => ?_)
        · refine Rn.iconst (v := (-1)) (pc' := 69) rfl (by decide) rfl ?_
          refine Rn.cput (pc' := 72) rfl rfl rfl rfl rfl (by decide) rfl ?_
          refine Rn.step (pc' := 74) rfl rfl ?_
          refine Rn.step (pc' := 75) rfl rfl ?_
          refine Rn.iadd (pc' := 76) rfl rfl ?_
          refine Rn.step (pc' := 78) rfl rfl ?_
          refine Rn.step (pc' := 80) rfl rfl ?_
          refine Rn.step (pc' := 82) rfl rfl ?_
          refine Rn.step (pc' := 83) rfl rfl ?_
          refine Rn.icmp_lt (pc1 := 91) (pc2 := 86) rfl rfl rfl (fun h83 => ?_) (fun h83 => ?_)
          · refine Rn.iconst (v := 0) (pc' := 92) rfl (by decide) rfl ?_
            refine Rn.iadd (pc' := 93) rfl rfl ?_
            refine Rn.step (pc' := 95) rfl rfl ?_
            refine Rn.step (pc' := 98) rfl rfl ?_
            refine Rn.step (pc' := 14) rfl rfl ?_
            have ew : worn + nI (D - fr) * ww + ww = worn + nI (D + 1 - fr) * ww := by rw [show D + 1 - fr = (D - fr) + 1 by omega, ← nI_1, Int32.add_mul, Int32.one_mul, Int32.add_assoc]
            have h83x := h83
            rw [ew] at h83x
            have hdn : nx ≤ D := by
              have := mt (nI_ltI (a := D) (b := nx) (by omega) (by omega)).mpr h25
              omega
            have evD : hCs sole worn ww f (D - fr) + G D = cbv sole worn ww f G fr D := rfl
            have hL : IsL (cbv sole worn ww f G fr) nx D D := by
              rcases hst with ⟨a, b⟩ | ⟨a, i, b, c, e⟩
              · obtain rfl : D = nx := by omega
                exact IsL.one _ _
              · have := b.up
                rw [show D - 1 + 1 = D by omega] at this
                refine this.1 ?_
                rw [← c]
                exact h40
            have hw : (-1 : Int32) = if D < N then nI D else -1 := by rw [if_neg (fun z => absurd ((nI_leI (by omega) (by omega)).mp h60) (by omega))]
            refine Rn.ls12 rfl rfl rfl rfl rfl rfl rfl rfl (congrArg Value.int ew) (congrArg Value.int (a₂ := hCs sole worn ww f (D + 1 - fr)) (by rw [show D + 1 - fr = (D - fr) + 1 by omega, hCs_s, show D - fr + 1 = D + 1 - fr by omega, if_pos h83x])) rfl (congrArg Value.int (nI_i1 D)) ?_
            exact (l_T_cu (F := va_up F 24 (upd (F 24) 3 (-1))) hG hN hfr hnx hb (D + 1) (by omega) (by omega) (Or.inr ⟨by omega, D, by rw [show D + 1 - 1 = D by omega]; exact hL, evD, hw⟩)).conseq (fun r_ m_ hx => by
              obtain ⟨i, F1, z1, z2, z3, z4, z5⟩ := hx
              exact ⟨i, F1, z1, z2, fun k hk => (z3 k hk).trans (up_ne F _ hk), z4, z5⟩)
          · refine Rn.step (pc' := 88) rfl rfl ?_
            refine Rn.step (pc' := 92) rfl rfl ?_
            refine Rn.iadd (pc' := 93) rfl rfl ?_
            refine Rn.step (pc' := 95) rfl rfl ?_
            refine Rn.step (pc' := 98) rfl rfl ?_
            refine Rn.step (pc' := 14) rfl rfl ?_
            have ew : worn + nI (D - fr) * ww + ww = worn + nI (D + 1 - fr) * ww := by rw [show D + 1 - fr = (D - fr) + 1 by omega, ← nI_1, Int32.add_mul, Int32.one_mul, Int32.add_assoc]
            have h83x := h83
            rw [ew] at h83x
            have hdn : nx ≤ D := by
              have := mt (nI_ltI (a := D) (b := nx) (by omega) (by omega)).mpr h25
              omega
            have evD : hCs sole worn ww f (D - fr) + G D = cbv sole worn ww f G fr D := rfl
            have hL : IsL (cbv sole worn ww f G fr) nx D D := by
              rcases hst with ⟨a, b⟩ | ⟨a, i, b, c, e⟩
              · obtain rfl : D = nx := by omega
                exact IsL.one _ _
              · have := b.up
                rw [show D - 1 + 1 = D by omega] at this
                refine this.1 ?_
                rw [← c]
                exact h40
            have hw : (-1 : Int32) = if D < N then nI D else -1 := by rw [if_neg (fun z => absurd ((nI_leI (by omega) (by omega)).mp h60) (by omega))]
            refine Rn.ls12 rfl rfl rfl rfl rfl rfl rfl rfl (congrArg Value.int ew) (congrArg Value.int (a₂ := hCs sole worn ww f (D + 1 - fr)) (by rw [show D + 1 - fr = (D - fr) + 1 by omega, hCs_s, show D - fr + 1 = D + 1 - fr by omega, if_neg h83x])) rfl (congrArg Value.int (nI_i1 D)) ?_
            exact (l_T_cu (F := va_up F 24 (upd (F 24) 3 (-1))) hG hN hfr hnx hb (D + 1) (by omega) (by omega) (Or.inr ⟨by omega, D, by rw [show D + 1 - 1 = D by omega]; exact hL, evD, hw⟩)).conseq (fun r_ m_ hx => by
              obtain ⟨i, F1, z1, z2, z3, z4, z5⟩ := hx
              exact ⟨i, F1, z1, z2, fun k hk => (z3 k hk).trans (up_ne F _ hk), z4, z5⟩)
        · refine Rn.step (pc' := 65) rfl rfl ?_
          refine Rn.step (pc' := 69) rfl rfl ?_
          refine Rn.cput (pc' := 72) rfl rfl rfl rfl rfl (by decide) rfl ?_
          refine Rn.step (pc' := 74) rfl rfl ?_
          refine Rn.step (pc' := 75) rfl rfl ?_
          refine Rn.iadd (pc' := 76) rfl rfl ?_
          refine Rn.step (pc' := 78) rfl rfl ?_
          refine Rn.step (pc' := 80) rfl rfl ?_
          refine Rn.step (pc' := 82) rfl rfl ?_
          refine Rn.step (pc' := 83) rfl rfl ?_
          refine Rn.icmp_lt (pc1 := 91) (pc2 := 86) rfl rfl rfl (fun h83 => ?_) (fun h83 => ?_)
          · refine Rn.iconst (v := 0) (pc' := 92) rfl (by decide) rfl ?_
            refine Rn.iadd (pc' := 93) rfl rfl ?_
            refine Rn.step (pc' := 95) rfl rfl ?_
            refine Rn.step (pc' := 98) rfl rfl ?_
            refine Rn.step (pc' := 14) rfl rfl ?_
            have ew : worn + nI (D - fr) * ww + ww = worn + nI (D + 1 - fr) * ww := by rw [show D + 1 - fr = (D - fr) + 1 by omega, ← nI_1, Int32.add_mul, Int32.one_mul, Int32.add_assoc]
            have h83x := h83
            rw [ew] at h83x
            have hdn : nx ≤ D := by
              have := mt (nI_ltI (a := D) (b := nx) (by omega) (by omega)).mpr h25
              omega
            have evD : hCs sole worn ww f (D - fr) + G D = cbv sole worn ww f G fr D := rfl
            have hL : IsL (cbv sole worn ww f G fr) nx D D := by
              rcases hst with ⟨a, b⟩ | ⟨a, i, b, c, e⟩
              · obtain rfl : D = nx := by omega
                exact IsL.one _ _
              · have := b.up
                rw [show D - 1 + 1 = D by omega] at this
                refine this.1 ?_
                rw [← c]
                exact h40
            have hw : (nI D : Int32) = if D < N then nI D else -1 := by rw [if_pos ((nI_ltI (by omega) (by omega)).mp (Int32.not_le.mp h60))]
            refine Rn.ls12 rfl rfl rfl rfl rfl rfl rfl rfl (congrArg Value.int ew) (congrArg Value.int (a₂ := hCs sole worn ww f (D + 1 - fr)) (by rw [show D + 1 - fr = (D - fr) + 1 by omega, hCs_s, show D - fr + 1 = D + 1 - fr by omega, if_pos h83x])) rfl (congrArg Value.int (nI_i1 D)) ?_
            exact (l_T_cu (F := va_up F 24 (upd (F 24) 3 (nI D))) hG hN hfr hnx hb (D + 1) (by omega) (by omega) (Or.inr ⟨by omega, D, by rw [show D + 1 - 1 = D by omega]; exact hL, evD, hw⟩)).conseq (fun r_ m_ hx => by
              obtain ⟨i, F1, z1, z2, z3, z4, z5⟩ := hx
              exact ⟨i, F1, z1, z2, fun k hk => (z3 k hk).trans (up_ne F _ hk), z4, z5⟩)
          · refine Rn.step (pc' := 88) rfl rfl ?_
            refine Rn.step (pc' := 92) rfl rfl ?_
            refine Rn.iadd (pc' := 93) rfl rfl ?_
            refine Rn.step (pc' := 95) rfl rfl ?_
            refine Rn.step (pc' := 98) rfl rfl ?_
            refine Rn.step (pc' := 14) rfl rfl ?_
            have ew : worn + nI (D - fr) * ww + ww = worn + nI (D + 1 - fr) * ww := by rw [show D + 1 - fr = (D - fr) + 1 by omega, ← nI_1, Int32.add_mul, Int32.one_mul, Int32.add_assoc]
            have h83x := h83
            rw [ew] at h83x
            have hdn : nx ≤ D := by
              have := mt (nI_ltI (a := D) (b := nx) (by omega) (by omega)).mpr h25
              omega
            have evD : hCs sole worn ww f (D - fr) + G D = cbv sole worn ww f G fr D := rfl
            have hL : IsL (cbv sole worn ww f G fr) nx D D := by
              rcases hst with ⟨a, b⟩ | ⟨a, i, b, c, e⟩
              · obtain rfl : D = nx := by omega
                exact IsL.one _ _
              · have := b.up
                rw [show D - 1 + 1 = D by omega] at this
                refine this.1 ?_
                rw [← c]
                exact h40
            have hw : (nI D : Int32) = if D < N then nI D else -1 := by rw [if_pos ((nI_ltI (by omega) (by omega)).mp (Int32.not_le.mp h60))]
            refine Rn.ls12 rfl rfl rfl rfl rfl rfl rfl rfl (congrArg Value.int ew) (congrArg Value.int (a₂ := hCs sole worn ww f (D + 1 - fr)) (by rw [show D + 1 - fr = (D - fr) + 1 by omega, hCs_s, show D - fr + 1 = D + 1 - fr by omega, if_neg h83x])) rfl (congrArg Value.int (nI_i1 D)) ?_
            exact (l_T_cu (F := va_up F 24 (upd (F 24) 3 (nI D))) hG hN hfr hnx hb (D + 1) (by omega) (by omega) (Or.inr ⟨by omega, D, by rw [show D + 1 - 1 = D by omega]; exact hL, evD, hw⟩)).conseq (fun r_ m_ hx => by
              obtain ⟨i, F1, z1, z2, z3, z4, z5⟩ := hx
              exact ⟨i, F1, z1, z2, fun k hk => (z3 k hk).trans (up_ne F _ hk), z4, z5⟩)
termination_by N + 1 - D
theorem c_T_cu {d N fr nx : Nat} {G : Nat → Int32} (hG : I 28 = G) (hN : N ≤ 30) (hfr : fr ≤ nx) (hnx : nx ≤ N) (sole worn ww f : Int32) (hb : ¬ (1000000 : Int32) < cbv sole worn ww f G fr nx) : Cl d j_Trials_costUntilCobbled [.ref 24, .int sole, .int worn, .int ww, .int f, .int (nI fr), .int (nI nx), .int (nI N)] (CC m0 F I L R H) (fun r m2 => ∃ i F1, IsL (cbv sole worn ww f G fr) nx N i ∧ r = some (.int (cbv sole worn ww f G fr i)) ∧ (∀ k, k ≠ 24 → F1 k = F k) ∧ (F1 24 3 = if i < N then nI i else -1) ∧ m2 = CC m0 F1 I L R H) := by
  show Rn d j_Trials_costUntilCobbled 0 _ _ _ _
  refine Rn.step (pc' := 1) rfl rfl ?_
  refine Rn.step (pc' := 3) rfl rfl ?_
  refine Rn.iconst (v := 0) (pc' := 4) rfl (by decide) rfl ?_
  refine Rn.step (pc' := 6) rfl rfl ?_
  refine Rn.iconst (v := 1000000) (pc' := 8) rfl (by decide) rfl ?_
  refine Rn.step (pc' := 10) rfl rfl ?_
  refine Rn.step (pc' := 12) rfl rfl ?_
  refine Rn.step (pc' := 14) rfl rfl ?_
  refine Rn.ls12 rfl rfl rfl rfl rfl rfl rfl rfl (congrArg Value.int (a₂ := worn + nI (fr - fr) * ww) (by rw [Nat.sub_self, nI_0, Int32.zero_mul, Int32.add_zero])) (congrArg Value.int (a₂ := hCs sole worn ww f (fr - fr)) (by rw [Nat.sub_self]; rfl)) rfl rfl ?_
  exact l_T_cu hG hN hfr hnx hb fr (Nat.le_refl _) (by omega) (Or.inl ⟨hfr, rfl⟩)
set_option maxHeartbeats 4000000 in
theorem l_T_lc {d N : Nat} {sole worn ww f c : Int32} {C0 : Nat → Int32} (hN : N ≤ 30) (hd : 1 ≤ d) (hf : 0 ≤ f ∧ f ≤ 99) (hc : 0 ≤ c ∧ c ≤ 99) (k : Nat) (hk : k ≤ N) (x8 : Value) {m : xM} (hm : ∃ F1 G, m = CC m0 F1 (va_up I 28 G) L R H ∧ (∀ k, k ≠ 24 → F1 k = F k) ∧ G N = 0 ∧ (∀ e, N - k ≤ e → e < N → G e = cFr sole ww f c N C0 k e) ∧ ∀ e, N - k ≤ e → e ≤ N → (G e).toInt ≤ 3069) : Rn d j_Trials_leastCost 24 [.ref 24, .int sole, .int worn, .int (nI N), .int ww, .int c, .int f, .int (nI (N - k) - 1), x8] [] m (fun r m2 => r = some (.int (cbE sole worn ww f (cFr sole ww f c N C0 N) N N).2) ∧ ∃ F1 I1, m2 = CC m0 F1 I1 L R H ∧ (∀ k, k ≠ 24 → F1 k = F k) ∧ (∀ a, a ≠ 28 → I1 a = I a) ∧ F1 24 3 = (cbE sole worn ww f (cFr sole ww f c N C0 N) N N).1) := by
  obtain ⟨F1, G, rfl, hF1, hGN, hGC, hGB⟩ := hm
  by_cases hk3 : k = N
  · subst hk3
    rw [show nI (k - k) - 1 = -1 by rw [Nat.sub_self]; decide]
    refine Rn.step (pc' := 26) rfl rfl ?_
    refine Rn.ifc_lt (pc1 := 66) (pc2 := 29) rfl rfl rfl (fun h26 => ?_) (fun h26 => absurd (by decide) h26)
    refine Rn.step (pc' := 67) rfl rfl ?_
    refine Rn.step (pc' := 68) rfl rfl ?_
    refine Rn.step (pc' := 69) rfl rfl ?_
    refine Rn.step (pc' := 71) rfl rfl ?_
    refine Rn.step (pc' := 73) rfl rfl ?_
    refine Rn.iconst (v := 0) (pc' := 74) rfl (by decide) rfl ?_
    refine Rn.iconst (v := 0) (pc' := 75) rfl (by decide) rfl ?_
    refine Rn.step (pc' := 76) rfl rfl ?_
    refine Rn.callV (pc' := 79) rfl (by decide) (by omega) rfl rfl rfl (c_T_cu (N := k) (fr := 0) (nx := 0) (G := G) (va_up_self _ _ _) hN (by omega) (by omega) sole worn ww f (cbv_bd (fr := 0) (dy := 0) hf (by omega) (hGB 0 (by omega) (by omega)))) (fun r_ m_ hc_ => ?_)
    obtain ⟨i, F2, hL, rfl, hF2, hw, rfl⟩ := hc_
    obtain ⟨i2, g1, g2, g3⟩ := cbE_L (sole := sole) (worn := worn) (ww := ww) (f := f) (C := cFr sole ww f c k C0 k) (G := G) (by omega) hGN (fun e he => hGC e (by omega) he) k (Nat.le_refl _)
    rw [Nat.sub_self] at g1
    obtain rfl := hL.uniq g1
    exact Rn.iret rfl (rfl) (⟨by rw [g2], F2, _, rfl, fun k hk => (hF2 k hk).trans (hF1 k hk), fun a ha => up_ne I _ ha, hw.trans g3.symm⟩)
  · have hk2 : k < N := by omega
    have e0 : nI (N - k) - 1 = nI (N - 1 - k) := (nI_sub (b := 1) (by omega) (by omega)).trans (by congr 1; omega)
    rw [e0]
    refine Rn.step (pc' := 26) rfl rfl ?_
    refine Rn.ifc_lt (pc1 := 66) (pc2 := 29) rfl rfl rfl (fun h26 => absurd h26 (nI_pos (by omega))) (fun h26 => ?_)
    refine Rn.step (pc' := 30) rfl rfl ?_
    refine Rn.step (pc' := 31) rfl rfl ?_
    refine Rn.iconst (v := 0) (pc' := 32) rfl (by decide) rfl ?_
    refine Rn.step (pc' := 34) rfl rfl ?_
    refine Rn.step (pc' := 36) rfl rfl ?_
    refine Rn.step (pc' := 38) rfl rfl ?_
    refine Rn.step (pc' := 40) rfl rfl ?_
    refine Rn.iconst (v := 1) (pc' := 41) rfl (by decide) rfl ?_
    refine Rn.iadd (pc' := 42) rfl rfl ?_
    refine Rn.step (pc' := 43) rfl rfl ?_
    rw [show nI (N - 1 - k) + 1 = nI (N - 1 - k + 1) from nI_1 _]
    refine Rn.callV (pc' := 46) rfl (by decide) (by omega) rfl rfl rfl (c_T_cu (N := N) (fr := N - 1 - k) (nx := N - 1 - k + 1) (G := G) (va_up_self _ _ _) hN (by omega) (by omega) sole 0 ww f (cbv_bd (fr := N - 1 - k) (dy := N - 1 - k + 1) hf (by omega) (hGB (N - 1 - k + 1) (by omega) (by omega)))) (fun r_ m_ hc_ => ?_)
    obtain ⟨i, F2, hL, rfl, hF2, hw, rfl⟩ := hc_
    refine Rn.step (pc' := 48) rfl rfl ?_
    refine Rn.step (pc' := 49) rfl rfl ?_
    refine Rn.getf (pc' := 52) rfl rfl rfl rfl rfl ?_
    refine Rn.step (pc' := 54) rfl rfl ?_
    refine Rn.step (pc' := 56) rfl rfl ?_
    refine Rn.step (pc' := 58) rfl rfl ?_
    refine Rn.iadd (pc' := 59) rfl rfl ?_
    refine Rn.cast (k := N - 1 - k) (pc' := 60) rfl rfl (rfl) (by omega) (by decide) rfl ?_
    refine Rn.step (pc' := 63) rfl rfl ?_
    refine Rn.step (pc' := 24) rfl rfl ?_
    have hval : c + cbv sole 0 ww f G (N - 1 - k) i = cFr sole ww f c N C0 (k + 1) (N - 1 - k) := by
      rw [cFr_s, upd_s]
      congr 1
      have h1 := hL.m
      have h2 := inL_IsM (sole := sole) (ww := ww) (f := f) (C := cFr sole ww f c N C0 k) (G := G) (dd := N - 1 - k) (N := N) (by omega) hGN (fun e h1 h2 => hGC e (by omega) h2)
      rw [show N - 1 - (N - 1 - k) = k by omega] at h2
      exact h1.uniq h2
    rw [va_up_self, up_up]
    have := l_T_lc (sole := sole) (worn := worn) (ww := ww) (f := f) (c := c) (C0 := C0) hN hd hf hc (k + 1) (by omega) (.int (cbv sole 0 ww f G (N - 1 - k) i)) (m := CC m0 F2 (va_up I 28 (upd G (N - 1 - k) (c + cbv sole 0 ww f G (N - 1 - k) i))) L R H) ⟨F2, _, rfl, fun k hk => (hF2 k hk).trans (hF1 k hk), by rw [upd_n _ _ (by omega)]; exact hGN, fun e h1 h2 => by
      by_cases ee : e = N - 1 - k
      · subst ee
        rw [upd_s]
        exact hval
      · rw [upd_n _ _ ee, cFr_s, upd_n _ _ ee]
        exact hGC e (by omega) h2, fun e h1 h2 => by
      by_cases ee : e = N - 1 - k
      · subst ee
        rw [upd_s]
        exact cbv_lst hf hc hN hGN hL
      · rw [upd_n _ _ ee]
        exact hGB e (by omega) h2⟩
    rw [show N - (k + 1) = N - 1 - k by omega, ← im1 (N - 1 - k)] at this
    exact this
termination_by N - k
theorem c_T_lc {d N : Nat} (sole worn ww f c : Int32) (C0 : Nat → Int32) (hN1 : 1 ≤ N) (hN : N ≤ 30) (hd : 1 ≤ d) (hf : 0 ≤ f ∧ f ≤ 99) (hc : 0 ≤ c ∧ c ≤ 99) : Cl d j_Trials_leastCost [.ref 24, .int sole, .int worn, .int (nI N), .int ww, .int c, .int f] (CC m0 F I L R H) (fun r m2 => r = some (.int (cbE sole worn ww f (cFr sole ww f c N C0 N) N N).2) ∧ ∃ F1 I1, m2 = CC m0 F1 I1 L R H ∧ (∀ k, k ≠ 24 → F1 k = F k) ∧ (∀ a, a ≠ 28 → I1 a = I a) ∧ F1 24 3 = (cbE sole worn ww f (cFr sole ww f c N C0 N) N N).1) := by
  show Rn d j_Trials_leastCost 0 _ _ _ _
  refine Rn.step (pc' := 1) rfl rfl ?_
  refine Rn.ifc_lt (pc1 := 10) (pc2 := 4) rfl rfl rfl (fun h1 => absurd h1 (nI_pos (by omega))) (fun h1 => ?_)
  refine Rn.step (pc' := 5) rfl rfl ?_
  refine Rn.iconst (v := 30) (pc' := 7) rfl (by decide) rfl ?_
  refine Rn.icmp_le (pc1 := 12) (pc2 := 10) rfl rfl rfl (fun h7 => ?_) (fun h7 => absurd ((nI_leI (a := N) (b := 30) (by omega) (by omega)).mpr hN) h7)
  refine Rn.step (pc' := 13) rfl rfl ?_
  refine Rn.getf (pc' := 16) rfl rfl rfl rfl rfl ?_
  refine Rn.step (pc' := 17) rfl rfl ?_
  refine Rn.iconst (v := 0) (pc' := 18) rfl (by decide) rfl ?_
  refine Rn.cast (k := N) (pc' := 19) rfl rfl (rfl) (by omega) (by decide) rfl ?_
  refine Rn.step (pc' := 20) rfl rfl ?_
  refine Rn.iconst (v := 1) (pc' := 21) rfl (by decide) rfl ?_
  refine Rn.isub (pc' := 22) rfl rfl ?_
  refine Rn.step (pc' := 24) rfl rfl ?_
  exact l_T_lc (C0 := C0) hN hd hf hc 0 (by omega) _ ⟨F, _, rfl, fun _ _ => rfl, upd_s _ _ _, fun e h1 h2 => absurd h1 (by omega), fun e h1 h2 => by
    rw [show e = N by omega, upd_s]
    decide⟩
end CI0
