/-! THE GRAMMAR of rules, told once for both (a state: place, PARTS, tokens); the class: VALUES. -/
section CY
variable {m0 : xM} {F I : Nat → Nat → Int32} {L : Nat → Nat → Int64} {R : Nat → Nat → Option Nat} {H : Value} {s w : Nat → Int32} {o : Nat} {gg : Prop}
theorem neg_all : ∀ k : Fin 128, 128 ≤ (-128 + nI k.1) &&& 255 := by decide +kernel
theorem nI_subw {a b : Nat} (h : b ≤ a) : nI a - nI b = nI (a - b) := by
  have e : nI a = nI (a - b) + nI b := by rw [nI_add]; congr 1; omega
  rw [e]
  exact Int32.add_sub_cancel _ _
theorem Cl.conseq {d j : Nat} {as : List Value} {m : xM} {P1 P : Option Value → xM → Prop} (h : Cl d j as m P1) (hP : ∀ r m', P1 r m' → P r m') : Cl d j as m P := Rn.conseq h hP
theorem or15 {v : Nat} (h : v < 100000) : (15 : Int32) ||| (nI v <<< ((5 : Int32) &&& 31)) = nI (15 + 32 * v) := by
  rw [pk_shlN (n := v) _ 5 (by decide) (by omega)]
  apply Int32.toBitVec_inj.mp
  apply BitVec.eq_of_toNat_eq
  rw [Int32.toBitVec_or, BitVec.toNat_or, nI_tn, nI_tn]
  show 15 ||| (v * 2 ^ 5 % 2 ^ 32) = (15 + 32 * v) % 2 ^ 32
  rw [Nat.mod_eq_of_lt (by omega), Nat.mod_eq_of_lt (by omega), Nat.or_comm, Nat.mul_comm v, ← Nat.two_pow_add_eq_or_of_lt (by decide)]
  omega
abbrev gS : Type := Nat × Nat × List (Nat × Nat)
/-- a fault, or the state behind -/
abbrev gR : Type := Nat ⊕ gS
def nxE (T : Nat → Int32) (n p : Nat) : Nat := skE T n (tkE T n p)
def gAd (T : Nat → Int32) (n : Nat) (s : gS) : gS := (nxE T n s.1, s.2.1, s.2.2)
def gPt (t : Nat × Nat) (s : gS) : gS := (s.1, s.2.1, s.2.2 ++ [t])
def gFl (s : gS) (k : Nat) : gR := .inl (1 + 8 * s.1 + k)
def gBd (x : gR) (f : gS → gR) : gR := match x with
  | .inl e => .inl e
  | .inr s => f s
def gPa (s : gS) (f : gS → gR) : gR := if s.2.1 < 60 then f (s.1, s.2.1 + 1, s.2.2) else gFl s 3
def dcN (T : Nat → Int32) : Nat → Nat → Nat → Nat
  | 0, _, a => a
  | f + 1, i, a => dcN T f (i + 1) (10 * a + ((T i).toNatClampNeg - 48))
def gVa (T : Nat → Int32) (n : Nat) (s : gS) : gR :=
  if kdE T n s.1 = 2 then (if tkE T n s.1 - s.1 ≤ 5 then gPa s (fun z => .inr (gAd T n (gPt (0, dcN T (tkE T n s.1 - s.1) s.1 0) z))) else gFl s 1)
  else if wix T s.1 (leE T n s.1) ws2 0 < 0 then gFl s 0 else gPa s (fun z => .inr (gAd T n (gPt (1, (wix T s.1 (leE T n s.1) ws2 0).toNatClampNeg) z)))
section GP
variable {T : Nat → Int32} {n : Nat}
theorem tkE_le {p : Nat} (hp : p ≤ n) : tkE T n p ≤ n := by
  unfold tkE
  split
  · exact hp
  · split
    · exact rnE_le hp
    · split
      · exact rnE_le hp
      · rename_i h0 _ _
        have hl : p < n := Nat.lt_of_not_le (fun z => h0 (kd0 z))
        split
        · rename_i h
          have := h.2.1
          omega
        · omega
theorem by255b {b : Int32} (h1 : -128 ≤ b) (h2 : b ≤ 127) {lo hi : Int32} (hh : hi ≤ 127) (hl : 0 ≤ lo) (h : lo ≤ b &&& 255 ∧ b &&& 255 ≤ hi) : b &&& 255 = b := by
  by_cases h3 : 0 ≤ b
  · exact by255 b h1 h2 h3
  · exfalso
    have e : b.toInt < 0 := by
      have := mt Int32.le_iff_toInt_le.mpr h3
      have z : (0 : Int32).toInt = 0 := by decide
      omega
    have e1 := Int32.le_iff_toInt_le.mp h1
    have z1 : (-128 : Int32).toInt = -128 := by decide
    obtain ⟨k, hk, hb⟩ : ∃ k : Fin 128, True ∧ b = -128 + nI k.1 := ⟨⟨(b.toInt + 128).toNat, by omega⟩, trivial, by
      apply Int32.toInt_inj.mp
      have hk2 : ((b.toInt + 128).toNat : Int) = b.toInt + 128 := Int.toNat_of_nonneg (by omega)
      rw [Int32.toInt_add, nI_toInt (by omega), z1, hk2, show (-128 + (b.toInt + 128) : Int) = b.toInt by omega]
      exact (Int32.toInt_bmod b).symm⟩
    have := neg_all k
    rw [← hb] at this
    have h5 := Int32.le_iff_toInt_le.mp (Int32.le_trans this (Int32.le_trans h.2 hh))
    revert h5
    decide
theorem nx_gt {p : Nat} (hT : ∀ i, -128 ≤ T i ∧ T i ≤ 127) (hp : p ≤ n) (h : ¬ kdE T n p = 0) : p < tkE T n p ∧ p < nxE T n p := by
  have hl : p < n := Nat.lt_of_not_le (fun z => h (kd0 z))
  have h1 : p < tkE T n p := by
    by_cases k1 : 97 ≤ fcE T p ∧ fcE T p ≤ 122
    · have e : fcE T p = T p := by255b (hT p).1 (hT p).2 (by decide) (by decide) k1
      rw [(tz1 (kd1 (by omega) k1)).1]
      unfold leE
      rw [e] at k1
      rw [rnE_s ⟨hl, k1⟩]
      exact rnE_ge
    · by_cases k2 : 48 ≤ fcE T p ∧ fcE T p ≤ 57
      · have e : fcE T p = T p := by255b (hT p).1 (hT p).2 (by decide) (by decide) k2
        rw [(tz2 (kd2 (by omega) k1 k2)).1]
        rw [e] at k2
        rw [rnE_s ⟨hl, k2⟩]
        exact rnE_ge
      · have k3 := kd3 (n := n) (by omega) k1 k2
        by_cases ht : twE T n p
        · rw [(tz3 k3 ht).1]
          omega
        · rw [(tz4 k3 ht).1]
          omega
  exact ⟨h1, Nat.lt_of_lt_of_le h1 rnE_ge⟩
theorem nx_le {p : Nat} (hp : p ≤ n) : nxE T n p ≤ n := rnE_le (tkE_le hp)
theorem dc_dv : ∀ (f i a : Nat), (∀ k, i ≤ k → k < i + f → 48 ≤ T k ∧ T k ≤ 57) → dvE T f i (nI a) = nI (dcN T f i a) ∧ dcN T f i a < (a + 1) * 10 ^ f
  | 0, i, a, _ => ⟨rfl, by show a < (a + 1) * 1; omega⟩
  | f + 1, i, a, h => by
    obtain ⟨c, hc, e⟩ := xN (lo := 48) (hi := 57) (n := 57) (by decide) (by decide) (h i (Nat.le_refl _) (by omega))
    have h48 : 48 ≤ c := by
      have := (h i (Nat.le_refl _) (by omega)).1
      rw [e] at this
      exact (nI_leI (a := 48) (b := c) (by omega) (by omega)).mp this
    have ec : (T i).toNatClampNeg - 48 = c - 48 := by rw [e, nI_clamp (by omega)]
    have e2 : nI a * 10 + T i - 48 = nI (10 * a + ((T i).toNatClampNeg - 48)) := by
      rw [ec, e, show (10 : Int32) = nI 10 from rfl, show (48 : Int32) = nI 48 from rfl, pk_mul, nI_add, show 10 * a + (c - 48) = a * 10 + c - 48 by omega]
      exact nI_subw (by omega)
    obtain ⟨r1, r2⟩ := dc_dv f (i + 1) (10 * a + ((T i).toNatClampNeg - 48)) (fun k h1 h2 => h k (by omega) (by omega))
    refine ⟨?_, ?_⟩
    · show dvE T f (i + 1) (nI a * 10 + T i - 48) = _
      rw [e2]
      exact r1
    · show dcN T f (i + 1) _ < _
      refine Nat.lt_of_lt_of_le r2 ?_
      rw [Nat.pow_succ, Nat.mul_comm (10 ^ f) 10, ← Nat.mul_assoc]
      exact Nat.mul_le_mul_right _ (by omega)
theorem wix_r {p q : Nat} : ∀ (ws : List (List Nat)) (k : Nat), wix T p q ws k = -1 ∨ ∃ j, k ≤ j ∧ j < k + ws.length ∧ wix T p q ws k = nI j
  | [], _ => Or.inl rfl
  | x :: r, k => by
    show (if wdP T p q x then nI k else wix T p q r (k + 1)) = -1 ∨ ∃ j, k ≤ j ∧ j < k + (r.length + 1) ∧ (if wdP T p q x then nI k else wix T p q r (k + 1)) = nI j
    by_cases h : wdP T p q x
    · rw [if_pos h]
      exact Or.inr ⟨k, Nat.le_refl _, by omega, rfl⟩
    · rw [if_neg h]
      rcases wix_r (p := p) (q := q) r (k + 1) with e | ⟨j, a, b, e⟩
      · exact Or.inl e
      · exact Or.inr ⟨j, by omega, by omega, e⟩
end GP
/-- the class's reader stands at s -/
abbrev RS (F I : Nat → Nat → Int32) (T : Nat → Int32) (n : Nat) (s : gS) : Prop := I 2 = T ∧ TP (F 1) T n s.1 ∧ s.1 ≤ n ∧ n ≤ 400 ∧ (∀ i, -128 ≤ T i ∧ T i ≤ 127) ∧ F 3 2 = nI s.2.2.length ∧ F 3 4 = nI s.2.1 ∧ s.2.1 ≤ 60 ∧ ∀ i, i < s.2.2.length → I 4 i = nI (csN (s.2.2.getD i (0, 0)))
def cFI (F I F1 I1 : Nat → Nat → Int32) : Prop := (∀ k, k ≠ 1 → k ≠ 3 → F1 k = F k) ∧ (∀ k, k ≠ 4 → I1 k = I k) ∧ F1 3 3 = F 3 3
theorem cFI.rfl (F I : Nat → Nat → Int32) : cFI F I F I := ⟨fun _ _ _ => Eq.refl _, fun _ _ => Eq.refl _, Eq.refl _⟩
theorem cFI.trans {F I F1 I1 F2 I2 : Nat → Nat → Int32} (h : cFI F I F1 I1) (g : cFI F1 I1 F2 I2) : cFI F I F2 I2 := ⟨fun k a b => (g.1 k a b).trans (h.1 k a b), fun k a => (g.2.1 k a).trans (h.2.1 k a), g.2.2.trans h.2.2⟩
theorem cFI.f1 {F I F1 I1 : Nat → Nat → Int32} (h : cFI F I F1 I1) (f : Nat → Int32) : cFI F I (va_up F1 1 f) I1 := ⟨fun k a b => (up_ne _ _ a).trans (h.1 k a b), h.2.1, h.2.2⟩
def gOK (F1 I1 : Nat → Nat → Int32) (T : Nat → Int32) (n : Nat) (r : Option Value) : gR → Prop
  | .inl e => r = some (.int 0) ∧ F1 1 2 = nI e
  | .inr s => r = some (.int 1) ∧ RS F1 I1 T n s
/-- what a part of the reader answers and leaves -/
def gO (m0 : xM) (F I : Nat → Nat → Int32) (L : Nat → Nat → Int64) (R : Nat → Nat → Option Nat) (H : Value) (T : Nat → Int32) (n : Nat) (x : gR) (r : Option Value) (m2 : xM) : Prop := ∃ F1 I1, m2 = CC m0 F1 I1 L R H ∧ cFI F I F1 I1 ∧ gOK F1 I1 T n r x
section RSx
variable {T : Nat → Int32} {n d : Nat} {t : gS}
theorem gO.mono {F1 I1 : Nat → Nat → Int32} {x : gR} {r : Option Value} {m2 : xM} (h : gO m0 F1 I1 L R H T n x r m2) (hc : cFI F I F1 I1) : gO m0 F I L R H T n x r m2 := by
  obtain ⟨F2, I2, e, c, g⟩ := h
  exact ⟨F2, I2, e, hc.trans c, g⟩
theorem r_next (hd : 1 ≤ d) (h : RS F I T n t) : Cl d j_Tape_next [.ref 1] (CC m0 F I L R H) (fun r m2 => r = none ∧ ∃ f1, m2 = CC m0 (va_up F 1 f1) I L R H ∧ RS (va_up F 1 f1) I T n (gAd T n t)) := by
  obtain ⟨rfl, h1, h2, h3, h4, h5⟩ := h
  refine Cl.conseq (c_T_next (n := n) (q := tkE (I 2) n t.1) hd h1.1 h3 h1.2.2.2.1 (tkE_le h2)) ?_
  rintro r m2 ⟨e1, f1, e2, e3, _⟩
  exact ⟨e1, f1, e2, rfl, e3, nx_le h2, h3, h4, h5⟩
theorem r_fail (k : Nat) (h : RS F I T n t) : Cl d j_Tape_fail [.ref 1, .int (nI k)] (CC m0 F I L R H) (Pi 0 (CC m0 (va_up F 1 (upd (F 1) 2 (nI (1 + 8 * t.1 + k)))) I L R H)) := c_T_fail h.2.1.2.2.1
theorem r_failO (k : Nat) (f : gS → gR) : gO m0 F I L R H T n (gFl t k) (some (.int 0)) (CC m0 (va_up F 1 (upd (F 1) 2 (nI (1 + 8 * t.1 + k)))) I L R H) := ⟨_, _, rfl, (cFI.rfl F I).f1 _, rfl, rfl⟩
theorem RS.put {c : Nat × Nat} (h : RS F I T n t) : RS (va_up F 3 (upd (F 3) 2 (nI (t.2.2.length + 1)))) (va_up I 4 (upd (I 4) t.2.2.length (nI (csN c)))) T n (gPt c t) := by
  obtain ⟨a1, a2, a3, a4, a5, a6, a7, a8, a9⟩ := h
  have hl : (t.2.2 ++ [c]).length = t.2.2.length + 1 := by rw [List.length_append]; rfl
  refine ⟨a1, a2, a3, a4, a5, ?_, a7, a8, fun i hi => ?_⟩
  · show nI (t.2.2.length + 1) = nI (t.2.2 ++ [c]).length
    rw [hl]
  · have hi2 : i < t.2.2.length + 1 := by
      rw [← hl]
      exact hi
    show upd (I 4) t.2.2.length (nI (csN c)) i = nI (csN ((t.2.2 ++ [c]).getD i (0, 0)))
    by_cases e : i = t.2.2.length
    · subst e
      rw [List.getD_eq_getElem?_getD, List.getElem?_append_right (Nat.le_refl _), Nat.sub_self]
      exact if_pos rfl
    · rw [List.getD_eq_getElem?_getD, List.getElem?_append_left (by omega), ← List.getD_eq_getElem?_getD, ← a9 i (by omega)]
      exact if_neg e
theorem r_put (c : Nat × Nat) (h : RS F I T n t) (hl : t.2.2.length < 400) : Cl d j_RuleReader_put [.ref 3, .int (nI (csN c))] (CC m0 F I L R H) (Pv (CC m0 (va_up F 3 (upd (F 3) 2 (nI (t.2.2.length + 1)))) (va_up I 4 (upd (I 4) t.2.2.length (nI (csN c)))) L R H)) := by
  have h2 := h.2.2.2.2.2.1
  show Rn d j_RuleReader_put 0 _ _ _ _
  refine Rn.step (pc' := 1) rfl rfl ?_
  refine Rn.getf (pc' := 4) rfl rfl rfl rfl rfl ?_
  refine Rn.step (pc' := 5) rfl rfl ?_
  refine Rn.getf (pc' := 8) rfl rfl rfl rfl rfl ?_
  refine Rn.step (pc' := 9) rfl rfl ?_
  refine Rn.icmp_ge (pc1 := 32) (pc2 := 12) rfl rfl rfl (fun h9 => absurd h9 (fun z => absurd ((nI_leI (a := 400) (b := t.2.2.length) (by omega) (by omega)).mp (by rw [← h2]; exact z)) (by omega))) (fun h9 => ?_)
  refine Rn.step (pc' := 13) rfl rfl ?_
  refine Rn.getf (pc' := 16) rfl rfl rfl rfl rfl ?_
  refine Rn.step (pc' := 17) rfl rfl ?_
  refine Rn.getf (pc' := 20) rfl rfl rfl rfl rfl ?_
  refine Rn.step (pc' := 21) rfl rfl ?_
  refine Rn.cast (k := t.2.2.length) (pc' := 22) rfl rfl (h2) (by omega) (by decide) rfl ?_
  refine Rn.step (pc' := 23) rfl rfl ?_
  refine Rn.step (pc' := 24) rfl rfl ?_
  refine Rn.getf (pc' := 27) rfl rfl rfl rfl rfl ?_
  refine Rn.iconst (v := 1) (pc' := 28) rfl (by decide) rfl ?_
  refine Rn.iadd (pc' := 29) rfl rfl ?_
  refine Rn.cput (pc' := 32) rfl rfl rfl rfl rfl (by decide) rfl ?_
  exact Rn.vret rfl (⟨rfl, by rw [show F 3 2 + 1 = nI (t.2.2.length + 1) by rw [h2, nI_lit, nI_add]]⟩)
theorem r_part (h : RS F I T n t) (hd : 1 ≤ d) : Cl d j_RuleReader_oneMorePart [.ref 3, .ref 1] (CC m0 F I L R H) (fun r m2 => (t.2.1 < 60 → r = some (.int 1) ∧ ∃ F1, m2 = CC m0 F1 I L R H ∧ cFI F I F1 I ∧ RS F1 I T n (t.1, t.2.1 + 1, t.2.2)) ∧ (¬ t.2.1 < 60 → gO m0 F I L R H T n (gFl t 3) r m2)) := by
  have h2 := h.2.2.2.2.2.2.1
  have h60 := h.2.2.2.2.2.2.2.1
  have e1 : F 3 4 + 1 = nI (t.2.1 + 1) := by rw [h2, nI_lit, nI_add]
  show Rn d j_RuleReader_oneMorePart 0 _ _ _ _
  refine Rn.step (pc' := 1) rfl rfl ?_
  refine Rn.step (pc' := 2) rfl rfl ?_
  refine Rn.getf (pc' := 5) rfl rfl rfl rfl rfl ?_
  refine Rn.iconst (v := 1) (pc' := 6) rfl (by decide) rfl ?_
  refine Rn.iadd (pc' := 7) rfl rfl ?_
  rw [e1]
  refine Rn.cput (pc' := 10) rfl rfl rfl rfl rfl (by decide) rfl ?_
  refine Rn.step (pc' := 11) rfl rfl ?_
  refine Rn.getf (pc' := 14) rfl rfl rfl rfl rfl ?_
  refine Rn.iconst (v := 60) (pc' := 16) rfl (by decide) rfl ?_
  refine Rn.icmp_le (pc1 := 27) (pc2 := 19) rfl rfl rfl (fun h16 => ?_) (fun h16 => ?_)
  · refine Rn.iconst (v := 1) (pc' := 28) rfl (by decide) rfl ?_
    refine Rn.step (pc' := 32) rfl rfl ?_
    exact Rn.iret rfl (rfl) (⟨fun _ => ⟨rfl, _, rfl, ⟨fun k _ b => up_ne _ _ b, fun _ _ => rfl, rfl⟩, h.1, h.2.1, h.2.2.1, h.2.2.2.1, h.2.2.2.2.1, h.2.2.2.2.2.1, rfl, (show t.2.1 + 1 ≤ 60 from (nI_leI (a := t.2.1 + 1) (b := 60) (by omega) (by omega)).mp h16), h.2.2.2.2.2.2.2.2⟩, fun z => absurd ((nI_leI (a := t.2.1 + 1) (b := 60) (by omega) (by omega)).mp h16) (by omega)⟩)
  · have hk : ¬ t.2.1 < 60 := fun z => h16 ((nI_leI (a := t.2.1 + 1) (b := 60) (by omega) (by omega)).mpr (by omega))
    refine Rn.step (pc' := 20) rfl rfl ?_
    refine Rn.iconst (v := 3) (pc' := 21) rfl (by decide) rfl ?_
    refine Rn.vi (pc' := 24) rfl (by decide) (by omega) rfl rfl rfl (c_T_fail (k := 3) (p := t.1) h.2.1.2.2.1) ?_
    refine Rn.ifc_eq (pc1 := 31) (pc2 := 27) rfl rfl rfl (fun h24 => ?_) (fun h24 => absurd (rfl) h24)
    refine Rn.iconst (v := 0) (pc' := 32) rfl (by decide) rfl ?_
    exact Rn.iret rfl (rfl) (⟨fun z => absurd z hk, fun _ => ⟨_, _, rfl, ⟨fun k a b => (up_ne _ _ a).trans (up_ne _ _ b), fun _ _ => rfl, rfl⟩, rfl, rfl⟩⟩)
end RSx
end CY
