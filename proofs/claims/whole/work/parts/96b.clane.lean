/-! THE CLASS: its reader of lanes. -/
section NE2
variable {m0 : xM} {F I : Nat → Nat → Int32} {L : Nat → Nat → Int64} {R : Nat → Nat → Option Nat} {H : Value} {s w : Nat → Int32} {o : Nat} {gg : Prop}
section V2
variable {T : Nat → Int32} {n p d : Nat} {q : Nat → Int32}
def cFL (F I F1 I1 : Nat → Nat → Int32) : Prop := (∀ k, k ≠ 1 → k ≠ 43 → F1 k = F k) ∧ (∀ k, k < 44 ∨ 49 < k → I1 k = I k)
theorem cFL.rfl (F I : Nat → Nat → Int32) : cFL F I F I := ⟨fun _ _ _ => Eq.refl _, fun _ _ => Eq.refl _⟩
theorem cFL.trans {F I F1 I1 F2 I2 : Nat → Nat → Int32} (h : cFL F I F1 I1) (g : cFL F1 I1 F2 I2) : cFL F I F2 I2 := ⟨fun k a b => (g.1 k a b).trans (h.1 k a b), fun k a => (g.2 k a).trans (h.2 k a)⟩
theorem cFL.f1 {F I F1 I1 : Nat → Nat → Int32} (h : cFL F I F1 I1) (f : Nat → Int32) : cFL F I (va_up F1 1 f) I1 := ⟨fun k a b => (up_ne _ _ a).trans (h.1 k a b), h.2⟩
theorem cFL.f43 {F I F1 I1 : Nat → Nat → Int32} (h : cFL F I F1 I1) (f : Nat → Int32) : cFL F I (va_up F1 43 f) I1 := ⟨fun k a b => (up_ne _ _ b).trans (h.1 k a b), h.2⟩
theorem cFL.ii {F I F1 I1 : Nat → Nat → Int32} {a : Nat} (h : cFL F I F1 I1) (f : Nat → Int32) (ha : 44 ≤ a ∧ a ≤ 49) : cFL F I F1 (va_up I1 a f) := ⟨h.1, fun k b => (up_ne _ _ (by omega)).trans (h.2 k b)⟩
/-- the class's lane is what was read -/
abbrev LQ (q : Nat → Int32) (F I : Nat → Nat → Int32) : Prop := LG 10 (cN (q 2)) (cN (q 3)) (cN (q 4)) q (F 43) (I 44) (I 45) (I 46) (I 47) (I 48)
def gXK (F1 I1 : Nat → Nat → Int32) (T : Nat → Int32) (n : Nat) (o : Option Value) : gX → Prop
  | .inl e => o = some (.int 0) ∧ F1 1 2 = nI e
  | .inr z => o = some (.int 1) ∧ TP (F1 1) T n z.1 ∧ LQ z.2 F1 I1
def gXC (m0 : xM) (F I : Nat → Nat → Int32) (L : Nat → Nat → Int64) (R : Nat → Nat → Option Nat) (H : Value) (T : Nat → Int32) (n : Nat) (x : gX) (o : Option Value) (m2 : xM) : Prop := ∃ F1 I1, m2 = CC m0 F1 I1 L R H ∧ cFL F I F1 I1 ∧ gXK F1 I1 T n o x
theorem gXC.mono {F1 I1 : Nat → Nat → Int32} {x : gX} {o : Option Value} {m2 : xM} (h : gXC m0 F1 I1 L R H T n x o m2) (hc : cFL F I F1 I1) : gXC m0 F I L R H T n x o m2 := by
  obtain ⟨F2, I2, e, c, g⟩ := h
  exact ⟨F2, I2, e, hc.trans c, g⟩
theorem gXC.bad {F1 I1 : Nat → Nat → Int32} {e : Nat} (h : cFL F I F1 I1) (h2 : F1 1 2 = nI e) : gXC m0 F I L R H T n (.inl e) (some (.int 0)) (CC m0 F1 I1 L R H) := ⟨F1, I1, rfl, h, rfl, h2⟩
theorem c_L_num {to : Nat} {lo hi_ : Int32} (hd : 2 ≤ d) (hI : I 2 = T) (tp : TP (F 1) T n p) (hp : p ≤ n) (h4 : n ≤ 400) (ht : to < 4) : Cl d j_Lane_number [.ref 43, .ref 1, .int (nI to), .int lo, .int hi_] (CC m0 F I L R H) (fun o m2 => (¬ kdE T n p = 2 → o = some (.int 0) ∧ ∃ f1, m2 = CC m0 (va_up F 1 f1) I L R H ∧ f1 2 = nI (1 + 8 * p + 0)) ∧ (kdE T n p = 2 → (¬ nbE T n p lo hi_ → o = some (.int 0) ∧ ∃ f1, m2 = CC m0 (va_up F 1 f1) I L R H ∧ f1 2 = nI (1 + 8 * p + 1)) ∧ (nbE T n p lo hi_ → o = some (.int 1) ∧ ∃ f1, m2 = CC m0 (va_up F 1 f1) (va_up I 49 (upd (I 49) to (vlE T n p))) L R H ∧ TP f1 T n (nxE T n p)))) := by
  have hkb : kdE T n p < 4 := by
    unfold kdE
    repeat' split
    all_goals omega
  have htk := tkE_b (T := T) h4 hp
  show Rn d j_Lane_number 0 _ _ _ _
  refine Rn.step (pc' := 1) rfl rfl ?_
  refine Rn.getf (pc' := 4) rfl rfl rfl rfl rfl ?_
  refine Rn.iconst (v := 2) (pc' := 5) rfl (by decide) rfl ?_
  refine Rn.icmp_eq (pc1 := 14) (pc2 := 8) rfl rfl rfl (fun h5 => ?_) (fun h5 => ?_)
  · have k2 : kdE T n p = 2 := (nI_eq (a := kdE T n p) (b := 2) (by omega) (by omega)).mp (tp.2.1.symm.trans h5)
    have hv : F 1 6 = vlE T n p := tp.2.2.2.2
    refine Rn.step (pc' := 15) rfl rfl ?_
    refine Rn.vi (pc' := 18) rfl (by decide) (by omega) rfl rfl rfl (c_T_long (p := p) (q := tkE T n p) tp.2.2.1 tp.2.2.2.1 htk.1 htk.2) ?_
    refine Rn.ifq_ne (pc1 := 38) (pc2 := 21) rfl rfl rfl (fun h18 => ?_) (fun h18 => ?_)
    · refine Rn.step (pc' := 39) rfl rfl ?_
      refine Rn.iconst (v := 1) (pc' := 40) rfl (by decide) rfl ?_
      refine Rn.vi (pc' := 43) rfl (by decide) (by omega) rfl rfl rfl (c_T_fail (k := 1) (p := p) tp.2.2.1) ?_
      exact Rn.iret rfl (rfl) (⟨fun z => absurd k2 z, fun _ => ⟨fun _ => ⟨rfl, _, rfl, rfl⟩, fun z => absurd z (fun y => h18 y.1)⟩⟩)
    · refine Rn.step (pc' := 22) rfl rfl ?_
      refine Rn.getf (pc' := 25) rfl rfl rfl rfl rfl ?_
      refine Rn.step (pc' := 26) rfl rfl ?_
      refine Rn.icmp_lt (pc1 := 38) (pc2 := 29) rfl rfl rfl (fun h26 => ?_) (fun h26 => ?_)
      · refine Rn.step (pc' := 39) rfl rfl ?_
        refine Rn.iconst (v := 1) (pc' := 40) rfl (by decide) rfl ?_
        refine Rn.vi (pc' := 43) rfl (by decide) (by omega) rfl rfl rfl (c_T_fail (k := 1) (p := p) tp.2.2.1) ?_
        exact Rn.iret rfl (rfl) (⟨fun z => absurd k2 z, fun _ => ⟨fun _ => ⟨rfl, _, rfl, rfl⟩, fun z => absurd z (fun y => absurd h26 (Int32.not_lt.mpr (by rw [hv]; exact y.2.1)))⟩⟩)
      · refine Rn.step (pc' := 30) rfl rfl ?_
        refine Rn.getf (pc' := 33) rfl rfl rfl rfl rfl ?_
        refine Rn.step (pc' := 35) rfl rfl ?_
        refine Rn.icmp_le (pc1 := 44) (pc2 := 38) rfl rfl rfl (fun h35 => ?_) (fun h35 => ?_)
        · refine Rn.step (pc' := 45) rfl rfl ?_
          refine Rn.getf (pc' := 48) rfl rfl rfl rfl rfl ?_
          refine Rn.step (pc' := 49) rfl rfl ?_
          refine Rn.step (pc' := 50) rfl rfl ?_
          refine Rn.getf (pc' := 53) rfl rfl rfl rfl rfl ?_
          rw [hv]
          refine Rn.cast (k := to) (pc' := 54) rfl rfl (rfl) (by omega) (by decide) rfl ?_
          refine Rn.step (pc' := 55) rfl rfl ?_
          refine Rn.callV (pc' := 58) rfl (by decide) (by omega) rfl rfl rfl (c_T_next (n := n) (q := tkE T n p) (by omega) (by exact tp.1) h4 (by exact tp.2.2.2.1) (tkE_le hp)) (fun r_ m_ hc_ => ?_)
          obtain ⟨rfl, f1, rfl, e3, _⟩ := hc_
          refine Rn.iconst (v := 1) (pc' := 59) rfl (by decide) rfl ?_
          exact Rn.iret rfl (rfl) (⟨fun z => absurd k2 z, fun _ => ⟨fun z => absurd ⟨h18, by rw [← hv]; exact Int32.not_lt.mp h26, by rw [← hv]; exact h35⟩ z, fun _ => ⟨rfl, f1, rfl, by subst hI; exact e3⟩⟩⟩)
        · refine Rn.step (pc' := 39) rfl rfl ?_
          refine Rn.iconst (v := 1) (pc' := 40) rfl (by decide) rfl ?_
          refine Rn.vi (pc' := 43) rfl (by decide) (by omega) rfl rfl rfl (c_T_fail (k := 1) (p := p) tp.2.2.1) ?_
          exact Rn.iret rfl (rfl) (⟨fun z => absurd k2 z, fun _ => ⟨fun _ => ⟨rfl, _, rfl, rfl⟩, fun z => absurd z (fun y => h35 (by rw [hv]; exact y.2.2))⟩⟩)
  · refine Rn.step (pc' := 9) rfl rfl ?_
    refine Rn.iconst (v := 0) (pc' := 10) rfl (by decide) rfl ?_
    refine Rn.vi (pc' := 13) rfl (by decide) (by omega) rfl rfl rfl (c_T_fail (k := 0) (p := p) tp.2.2.1) ?_
    exact Rn.iret rfl (rfl) (⟨fun _ => ⟨rfl, _, rfl, rfl⟩, fun z => absurd (show F 1 3 = 2 by rw [tp.2.1, z]; rfl) h5⟩)
theorem c_L_1 {PP Bn Fn Wn : Nat} (hd : 3 ≤ d) (hI : I 2 = T) (tp : TP (F 1) T n p) (hp : p ≤ n) (h4 : n ≤ 400) (hv : LV PP Bn Fn Wn q) (hq : LQ q F I) : Cl d j_Lane_readLane [.ref 43, .ref 1] (CC m0 F I L R H) (gXC m0 F I L R H T n (gL1 T n (p, q))) := by
  rw [show LQ q F I = LG 10 Bn Fn Wn q (F 43) (I 44) (I 45) (I 46) (I 47) (I 48) by unfold LQ; rw [hv.c2, hv.c3, hv.c4]] at hq
  unfold gL1
  show Rn d j_Lane_readLane 0 _ _ _ _
  refine Rn.step (pc' := 1) rfl rfl ?_
  refine Rn.step (pc' := 2) rfl rfl ?_
  refine Rn.iconst (v := 0) (pc' := 3) rfl (by decide) rfl ?_
  refine Rn.iconst (v := 2) (pc' := 4) rfl (by decide) rfl ?_
  refine Rn.iconst (v := 10) (pc' := 6) rfl (by decide) rfl ?_
  refine Rn.callV (pc' := 9) rfl (by decide) (by omega) rfl rfl rfl (c_L_num (to := 0) (by omega) hI tp hp h4 (by omega)) (fun r_ m_ hc_ => ?_)
  by_cases kA : kdE T n p = 2
  rotate_left
  · obtain ⟨rfl, f1, rfl, e1⟩ := hc_.1 kA
    rw [show gNu T n 2 10 0 (p, q) = .inl (1 + 8 * p + 0) from if_neg kA]
    refine Rn.ifc_eq (pc1 := 24) (pc2 := 12) rfl rfl rfl (fun h9 => ?_) (fun h9 => absurd (rfl) h9)
    refine Rn.iconst (v := 0) (pc' := 25) rfl (by decide) rfl ?_
    exact Rn.iret rfl (rfl) (gXC.bad ((cFL.rfl F I).f1 f1) e1)
  by_cases nA : nbE T n p 2 10
  rotate_left
  · obtain ⟨rfl, f1, rfl, e1⟩ := (hc_.2 kA).1 nA
    rw [show gNu T n 2 10 0 (p, q) = .inl (1 + 8 * p + 1) from (if_pos kA).trans (if_neg nA)]
    refine Rn.ifc_eq (pc1 := 24) (pc2 := 12) rfl rfl rfl (fun h9 => ?_) (fun h9 => absurd (rfl) h9)
    refine Rn.iconst (v := 0) (pc' := 25) rfl (by decide) rfl ?_
    exact Rn.iret rfl (rfl) (gXC.bad ((cFL.rfl F I).f1 f1) e1)
  obtain ⟨rfl, f2, rfl, t2⟩ := (hc_.2 kA).2 nA
  have t2k := nx_p kA
  rw [show gNu T n 2 10 0 (p, q) = .inr (nxE T n p, upd ((p, q)).2 0 (vlE T n p)) from (if_pos kA).trans (if_pos nA)]
  clear hc_
  show Rn _ _ _ _ _ _ (gXC m0 F I L R H T n (gNu T n 0 9 1 (nxE T n p, upd q 0 (vlE T n p))))
  refine Rn.ifc_eq (pc1 := 24) (pc2 := 12) rfl rfl rfl (fun h9 => absurd h9 (fun z => absurd z (by decide))) (fun h9 => ?_)
  refine Rn.step (pc' := 13) rfl rfl ?_
  refine Rn.step (pc' := 14) rfl rfl ?_
  refine Rn.iconst (v := 1) (pc' := 15) rfl (by decide) rfl ?_
  refine Rn.iconst (v := 0) (pc' := 16) rfl (by decide) rfl ?_
  refine Rn.iconst (v := 9) (pc' := 18) rfl (by decide) rfl ?_
  refine Rn.callV (pc' := 21) rfl (by decide) (by omega) rfl rfl rfl (c_L_num (to := 1) (by omega) hI t2 t2k h4 (by omega)) (fun r_ m_ hc_ => ?_)
  by_cases kA : kdE T n (nxE T n p) = 2
  rotate_left
  · obtain ⟨rfl, f1, rfl, e1⟩ := hc_.1 kA
    rw [show gNu T n 0 9 1 (nxE T n p, upd q 0 (vlE T n p)) = .inl (1 + 8 * (nxE T n p) + 0) from if_neg kA]
    refine Rn.ifc_ne (pc1 := 26) (pc2 := 24) rfl rfl rfl (fun h21 => absurd h21 (fun z => z rfl)) (fun h21 => ?_)
    refine Rn.iconst (v := 0) (pc' := 25) rfl (by decide) rfl ?_
    exact Rn.iret rfl (rfl) (gXC.bad ((((cFL.rfl F I).f1 f2).ii _ (by omega)).f1 f1) e1)
  by_cases nA : nbE T n (nxE T n p) 0 9
  rotate_left
  · obtain ⟨rfl, f1, rfl, e1⟩ := (hc_.2 kA).1 nA
    rw [show gNu T n 0 9 1 (nxE T n p, upd q 0 (vlE T n p)) = .inl (1 + 8 * (nxE T n p) + 1) from (if_pos kA).trans (if_neg nA)]
    refine Rn.ifc_ne (pc1 := 26) (pc2 := 24) rfl rfl rfl (fun h21 => absurd h21 (fun z => z rfl)) (fun h21 => ?_)
    refine Rn.iconst (v := 0) (pc' := 25) rfl (by decide) rfl ?_
    exact Rn.iret rfl (rfl) (gXC.bad ((((cFL.rfl F I).f1 f2).ii _ (by omega)).f1 f1) e1)
  obtain ⟨rfl, f3, rfl, t3⟩ := (hc_.2 kA).2 nA
  have t3k := nx_p kA
  rw [show gNu T n 0 9 1 (nxE T n p, upd q 0 (vlE T n p)) = .inr (nxE T n (nxE T n p), upd ((nxE T n p, upd q 0 (vlE T n p))).2 1 (vlE T n (nxE T n p))) from (if_pos kA).trans (if_pos nA)]
  clear hc_
  refine Rn.ifc_ne (pc1 := 26) (pc2 := 24) rfl rfl rfl (fun h21 => ?_) (fun h21 => absurd h21 (fun z => absurd z (by decide)))
  refine Rn.step (pc' := 27) rfl rfl ?_
  refine Rn.step (pc' := 28) rfl rfl ?_
  refine Rn.getf (pc' := 31) rfl rfl rfl rfl rfl ?_
  refine Rn.iconst (v := 0) (pc' := 32) rfl (by decide) rfl ?_
  refine Rn.cald (k := 0) (pc' := 33) rfl rfl (by simp only [nI_lit, nI_add, pk_mul, Nat.zero_add]) (by omega) ((rfl : _ = vlE T n p)) (by decide) rfl ?_
  refine Rn.cput (pc' := 36) rfl rfl rfl rfl rfl (by decide) rfl ?_
  refine Rn.step (pc' := 37) rfl rfl ?_
  refine Rn.step (pc' := 38) rfl rfl ?_
  refine Rn.getf (pc' := 41) rfl rfl rfl rfl rfl ?_
  refine Rn.iconst (v := 1) (pc' := 42) rfl (by decide) rfl ?_
  refine Rn.cald (k := 1) (pc' := 43) rfl rfl (by simp only [nI_lit, nI_add, pk_mul, Nat.zero_add]) (by omega) ((rfl : _ = vlE T n (nxE T n p))) (by decide) rfl ?_
  refine Rn.cput (pc' := 46) rfl rfl rfl rfl rfl (by decide) rfl ?_
  refine Rn.iconst (v := 1) (pc' := 47) rfl (by decide) rfl ?_
  refine Rn.iret rfl rfl (⟨_, _, rfl, ((((((cFL.rfl F I).f1 f2).ii _ (by omega)).f1 f3).ii _ (by omega)).f43 _).f43 _, rfl, t3, ?_⟩)
  show LG 10 (cN (upd (upd q 0 (vlE T n p)) 1 (vlE T n (nxE T n p)) 2)) (cN (upd (upd q 0 (vlE T n p)) 1 (vlE T n (nxE T n p)) 3)) (cN (upd (upd q 0 (vlE T n p)) 1 (vlE T n (nxE T n p)) 4)) _ _ _ _ _ _ _
  rw [upN _ _ (by decide), upN _ _ (by decide), upN _ _ (by decide), upN _ _ (by decide), upN _ _ (by decide), upN _ _ (by decide), hv.c2, hv.c3, hv.c4]
  obtain ⟨l1, l2, l3, l4, l5, l6, l7, l8, l9, l10, l11, l12⟩ := hq
  have hN : ∀ j, j ≠ 0 → j ≠ 1 → upd (upd q 0 (vlE T n p)) 1 (vlE T n (nxE T n p)) j = q j := fun j h1 h2 => by rw [upN _ _ h2, upN _ _ h1]
  have b6 := hv.2.1.2
  have b4 := hv.2.2.1.2
  have b10 := hv.2.2.2.1.2
  exact ⟨rfl, rfl, l3, l4, l5, l6, l7, fun x hx => (l8 x hx).trans (hN _ (by omega) (by omega)).symm, fun x hx => (l9 x hx).trans (hN _ (by omega) (by omega)).symm, fun x hx => (l10 x hx).trans (hN _ (by omega) (by omega)).symm, fun x hx => (l11 x hx).trans (hN _ (by omega) (by omega)).symm, fun x hx => (l12 x hx).trans (hN _ (by omega) (by omega)).symm⟩
theorem c_L_2 {PP Bn Fn Wn : Nat} (hd : 3 ≤ d) (hI : I 2 = T) (tp : TP (F 1) T n p) (hp : p ≤ n) (h4 : n ≤ 400) (hv : LV PP Bn Fn Wn q) (hq : LQ q F I) (hB6 : Bn < 6) : Cl d j_Lane_readBrother [.ref 43, .ref 1] (CC m0 F I L R H) (gXC m0 F I L R H T n (gL2 T n (10 + 6 * Bn) (p, q))) := by
  rw [show LQ q F I = LG 10 Bn Fn Wn q (F 43) (I 44) (I 45) (I 46) (I 47) (I 48) by unfold LQ; rw [hv.c2, hv.c3, hv.c4]] at hq
  have hP : F 43 6 - 1 = q 0 - 1 := by rw [hq.1]
  have hB : F 43 10 = nI Bn := by rw [hq.2.2.2.2.1]; exact hv.2.1.1
  have hX : kdE T n p = 2 → nbE T n p 0 (q 0 - 1) → kdE T n (nxE T n p) = 2 → nbE T n (nxE T n p) 0 9 → gL2 T n (10 + 6 * Bn) (p, q) = .inr (nxE T n (nxE T n p), upd (upd (upd (upd (upd (upd (upd q (10 + 6 * Bn) (vlE T n p)) (10 + 6 * Bn + 2) (vlE T n (nxE T n p))) (10 + 6 * Bn + 1) ((upd (upd q (10 + 6 * Bn) (vlE T n p)) (10 + 6 * Bn + 2) (vlE T n (nxE T n p))) (10 + 6 * Bn))) (10 + 6 * Bn + 3) 0) (10 + 6 * Bn + 4) 0) (10 + 6 * Bn + 5) 0) 2 ((upd (upd q (10 + 6 * Bn) (vlE T n p)) (10 + 6 * Bn + 2) (vlE T n (nxE T n p))) 2 + 1)) := fun a b c e => by
    unfold gL2
    rw [show gNu T n 0 ((p, q).2 0 - 1) (10 + 6 * Bn) (p, q) = _ from (if_pos a).trans (if_pos b)]
    show gBx (gNu T n 0 9 (10 + 6 * Bn + 2) (nxE T n p, upd q (10 + 6 * Bn) (vlE T n p))) (gBr (10 + 6 * Bn)) = _
    rw [show gNu T n 0 9 (10 + 6 * Bn + 2) (nxE T n p, upd q (10 + 6 * Bn) (vlE T n p)) = _ from (if_pos c).trans (if_pos e)]
    rfl
  unfold gL2
  show Rn d j_Lane_readBrother 0 _ _ _ _
  show Rn _ _ _ _ _ _ (gXC m0 F I L R H T n (gBx (gNu T n 0 (q 0 - 1) (10 + 6 * Bn) (p, q)) (fun z => gBx (gNu T n 0 9 (10 + 6 * Bn + 2) z) (gBr (10 + 6 * Bn)))))
  refine Rn.step (pc' := 1) rfl rfl ?_
  refine Rn.step (pc' := 2) rfl rfl ?_
  refine Rn.iconst (v := 0) (pc' := 3) rfl (by decide) rfl ?_
  refine Rn.iconst (v := 0) (pc' := 4) rfl (by decide) rfl ?_
  refine Rn.step (pc' := 5) rfl rfl ?_
  refine Rn.getf (pc' := 8) rfl rfl rfl rfl rfl ?_
  refine Rn.iconst (v := 1) (pc' := 9) rfl (by decide) rfl ?_
  refine Rn.isub (pc' := 10) rfl rfl ?_
  refine Rn.callV (pc' := 13) rfl (by decide) (by omega) rfl rfl rfl (by rw [hP]; exact c_L_num (to := 0) (by omega) hI tp hp h4 (by omega)) (fun r_ m_ hc_ => ?_)
  by_cases kA : kdE T n p = 2
  rotate_left
  · obtain ⟨rfl, f1, rfl, e1⟩ := hc_.1 kA
    rw [show gNu T n 0 (q 0 - 1) (10 + 6 * Bn) (p, q) = .inl (1 + 8 * p + 0) from if_neg kA]
    refine Rn.ifc_eq (pc1 := 28) (pc2 := 16) rfl rfl rfl (fun h13 => ?_) (fun h13 => absurd (rfl) h13)
    refine Rn.iconst (v := 0) (pc' := 29) rfl (by decide) rfl ?_
    exact Rn.iret rfl (rfl) (gXC.bad ((cFL.rfl F I).f1 f1) e1)
  by_cases nA : nbE T n p 0 (q 0 - 1)
  rotate_left
  · obtain ⟨rfl, f1, rfl, e1⟩ := (hc_.2 kA).1 nA
    rw [show gNu T n 0 (q 0 - 1) (10 + 6 * Bn) (p, q) = .inl (1 + 8 * p + 1) from (if_pos kA).trans (if_neg nA)]
    refine Rn.ifc_eq (pc1 := 28) (pc2 := 16) rfl rfl rfl (fun h13 => ?_) (fun h13 => absurd (rfl) h13)
    refine Rn.iconst (v := 0) (pc' := 29) rfl (by decide) rfl ?_
    exact Rn.iret rfl (rfl) (gXC.bad ((cFL.rfl F I).f1 f1) e1)
  obtain ⟨rfl, f2, rfl, t2⟩ := (hc_.2 kA).2 nA
  have t2k := nx_p kA
  have kA1 := kA
  have nA1 := nA
  rw [show gNu T n 0 (q 0 - 1) (10 + 6 * Bn) (p, q) = .inr (nxE T n p, upd ((p, q)).2 (10 + 6 * Bn) (vlE T n p)) from (if_pos kA).trans (if_pos nA)]
  clear hc_
  show Rn _ _ _ _ _ _ (gXC m0 F I L R H T n (gBx (gNu T n 0 9 (10 + 6 * Bn + 2) (nxE T n p, upd q (10 + 6 * Bn) (vlE T n p))) (gBr (10 + 6 * Bn))))
  refine Rn.ifc_eq (pc1 := 28) (pc2 := 16) rfl rfl rfl (fun h13 => absurd h13 (fun z => absurd z (by decide))) (fun h13 => ?_)
  refine Rn.step (pc' := 17) rfl rfl ?_
  refine Rn.step (pc' := 18) rfl rfl ?_
  refine Rn.iconst (v := 1) (pc' := 19) rfl (by decide) rfl ?_
  refine Rn.iconst (v := 0) (pc' := 20) rfl (by decide) rfl ?_
  refine Rn.iconst (v := 9) (pc' := 22) rfl (by decide) rfl ?_
  refine Rn.callV (pc' := 25) rfl (by decide) (by omega) rfl rfl rfl (c_L_num (to := 1) (by omega) hI t2 t2k h4 (by omega)) (fun r_ m_ hc_ => ?_)
  by_cases kA : kdE T n (nxE T n p) = 2
  rotate_left
  · obtain ⟨rfl, f1, rfl, e1⟩ := hc_.1 kA
    rw [show gNu T n 0 9 (10 + 6 * Bn + 2) (nxE T n p, upd q (10 + 6 * Bn) (vlE T n p)) = .inl (1 + 8 * (nxE T n p) + 0) from if_neg kA]
    refine Rn.ifc_ne (pc1 := 30) (pc2 := 28) rfl rfl rfl (fun h25 => absurd h25 (fun z => z rfl)) (fun h25 => ?_)
    refine Rn.iconst (v := 0) (pc' := 29) rfl (by decide) rfl ?_
    exact Rn.iret rfl (rfl) (gXC.bad ((((cFL.rfl F I).f1 f2).ii _ (by omega)).f1 f1) e1)
  by_cases nA : nbE T n (nxE T n p) 0 9
  rotate_left
  · obtain ⟨rfl, f1, rfl, e1⟩ := (hc_.2 kA).1 nA
    rw [show gNu T n 0 9 (10 + 6 * Bn + 2) (nxE T n p, upd q (10 + 6 * Bn) (vlE T n p)) = .inl (1 + 8 * (nxE T n p) + 1) from (if_pos kA).trans (if_neg nA)]
    refine Rn.ifc_ne (pc1 := 30) (pc2 := 28) rfl rfl rfl (fun h25 => absurd h25 (fun z => z rfl)) (fun h25 => ?_)
    refine Rn.iconst (v := 0) (pc' := 29) rfl (by decide) rfl ?_
    exact Rn.iret rfl (rfl) (gXC.bad ((((cFL.rfl F I).f1 f2).ii _ (by omega)).f1 f1) e1)
  obtain ⟨rfl, f3, rfl, t3⟩ := (hc_.2 kA).2 nA
  have t3k := nx_p kA
  rw [show gNu T n 0 9 (10 + 6 * Bn + 2) (nxE T n p, upd q (10 + 6 * Bn) (vlE T n p)) = .inr (nxE T n (nxE T n p), upd ((nxE T n p, upd q (10 + 6 * Bn) (vlE T n p))).2 (10 + 6 * Bn + 2) (vlE T n (nxE T n p))) from (if_pos kA).trans (if_pos nA)]
  clear hc_
  refine Rn.ifc_ne (pc1 := 30) (pc2 := 28) rfl rfl rfl (fun h25 => ?_) (fun h25 => absurd h25 (fun z => absurd z (by decide)))
  refine Rn.step (pc' := 31) rfl rfl ?_
  refine Rn.getf (pc' := 34) rfl rfl rfl rfl rfl ?_
  refine Rn.step (pc' := 35) rfl rfl ?_
  refine Rn.getf (pc' := 38) rfl rfl rfl rfl rfl ?_
  refine Rn.step (pc' := 39) rfl rfl ?_
  refine Rn.getf (pc' := 42) rfl rfl rfl rfl rfl ?_
  refine Rn.iconst (v := 0) (pc' := 43) rfl (by decide) rfl ?_
  refine Rn.cald (k := 0) (pc' := 44) rfl rfl (by simp only [nI_lit, nI_add, pk_mul, Nat.zero_add]) (by omega) ((rfl : _ = vlE T n p)) (by decide) rfl ?_
  refine Rn.cast (k := Bn) (pc' := 45) rfl rfl (by exact hB) (by omega) (by decide) rfl ?_
  refine Rn.step (pc' := 46) rfl rfl ?_
  refine Rn.getf (pc' := 49) rfl rfl rfl rfl rfl ?_
  refine Rn.step (pc' := 50) rfl rfl ?_
  refine Rn.getf (pc' := 53) rfl rfl rfl rfl rfl ?_
  refine Rn.step (pc' := 54) rfl rfl ?_
  refine Rn.getf (pc' := 57) rfl rfl rfl rfl rfl ?_
  refine Rn.iconst (v := 1) (pc' := 58) rfl (by decide) rfl ?_
  refine Rn.cald (k := 1) (pc' := 59) rfl rfl (by simp only [nI_lit, nI_add, pk_mul, Nat.zero_add]) (by omega) ((rfl : _ = vlE T n (nxE T n p))) (by decide) rfl ?_
  refine Rn.cast (k := Bn) (pc' := 60) rfl rfl (by exact hB) (by omega) (by decide) rfl ?_
  refine Rn.step (pc' := 61) rfl rfl ?_
  refine Rn.step (pc' := 62) rfl rfl ?_
  refine Rn.getf (pc' := 65) rfl rfl rfl rfl rfl ?_
  refine Rn.iconst (v := 1) (pc' := 66) rfl (by decide) rfl ?_
  refine Rn.iadd (pc' := 67) rfl rfl ?_
  rw [show va_up (va_up F 1 f2) 1 f3 43 10 + 1 = nI (Bn + 1) by show F 43 10 + 1 = _; rw [hB, nI_lit, nI_add]]
  refine Rn.cput (pc' := 70) rfl rfl rfl rfl rfl (by decide) rfl ?_
  refine Rn.iconst (v := 1) (pc' := 71) rfl (by decide) rfl ?_
  refine Rn.iret rfl rfl (⟨_, _, rfl, (((((((cFL.rfl F I).f1 f2).ii _ (by omega)).f1 f3).ii _ (by omega)).ii _ (by omega)).ii _ (by omega)).f43 _, rfl, t3, ?_⟩)
  have hv2 := gL2_v (T := T) (n := n) (p := p) (z := (nxE T n (nxE T n p), upd (upd (upd (upd (upd (upd (upd q (10 + 6 * Bn) (vlE T n p)) (10 + 6 * Bn + 2) (vlE T n (nxE T n p))) (10 + 6 * Bn + 1) ((upd (upd q (10 + 6 * Bn) (vlE T n p)) (10 + 6 * Bn + 2) (vlE T n (nxE T n p))) (10 + 6 * Bn))) (10 + 6 * Bn + 3) 0) (10 + 6 * Bn + 4) 0) (10 + 6 * Bn + 5) 0) 2 ((upd (upd q (10 + 6 * Bn) (vlE T n p)) (10 + 6 * Bn + 2) (vlE T n (nxE T n p))) 2 + 1))) hv hB6 (hX kA1 nA1 kA nA)
  show LQ (upd (upd (upd (upd (upd (upd (upd q (10 + 6 * Bn) (vlE T n p)) (10 + 6 * Bn + 2) (vlE T n (nxE T n p))) (10 + 6 * Bn + 1) ((upd (upd q (10 + 6 * Bn) (vlE T n p)) (10 + 6 * Bn + 2) (vlE T n (nxE T n p))) (10 + 6 * Bn))) (10 + 6 * Bn + 3) 0) (10 + 6 * Bn + 4) 0) (10 + 6 * Bn + 5) 0) 2 ((upd (upd q (10 + 6 * Bn) (vlE T n p)) (10 + 6 * Bn + 2) (vlE T n (nxE T n p))) 2 + 1)) _ _
  dsimp only at hv2
  generalize hq' : upd (upd (upd (upd (upd (upd (upd q (10 + 6 * Bn) (vlE T n p)) (10 + 6 * Bn + 2) (vlE T n (nxE T n p))) (10 + 6 * Bn + 1) ((upd (upd q (10 + 6 * Bn) (vlE T n p)) (10 + 6 * Bn + 2) (vlE T n (nxE T n p))) (10 + 6 * Bn))) (10 + 6 * Bn + 3) 0) (10 + 6 * Bn + 4) 0) (10 + 6 * Bn + 5) 0) 2 ((upd (upd q (10 + 6 * Bn) (vlE T n p)) (10 + 6 * Bn + 2) (vlE T n (nxE T n p))) 2 + 1) = q' at hv2 ⊢
  unfold LQ
  rw [hv2.1.c2, hv2.1.c3, hv2.1.c4]
  obtain ⟨l1, l2, l3, l4, l5, l6, l7, l8, l9, l10, l11, l12⟩ := hq
  have hN : ∀ j, j ≠ 2 → (j < 10 + 6 * Bn ∨ 16 + 6 * Bn ≤ j) → q' j = q j := fun j h1 h2 => by rw [← hq', upN _ _ (by omega), upN _ _ (by omega), upN _ _ (by omega), upN _ _ (by omega), upN _ _ (by omega), upN _ _ (by omega), upN _ _ (by omega)]
  have b4 := hv.2.2.1.2
  have b10 := hv.2.2.2.1.2
  have g1 : q' (10 + 6 * Bn + 1) = vlE T n p := by rw [← hq', upN _ _ (by omega), upN _ _ (by omega), upN _ _ (by omega), upN _ _ (by omega), upS, upN _ _ (by omega), upS]
  have g2 : q' (10 + 6 * Bn + 2) = vlE T n (nxE T n p) := by rw [← hq', upN _ _ (by omega), upN _ _ (by omega), upN _ _ (by omega), upN _ _ (by omega), upN _ _ (by omega), upS]
  refine ⟨l1.trans (hN _ (by omega) (by omega)).symm, l2.trans (hN _ (by omega) (by omega)).symm, l3.trans (hN _ (by omega) (by omega)).symm, l4.trans (hN _ (by omega) (by omega)).symm, hv2.1.2.1.1.symm, l6.trans (hN _ (by omega) (by omega)).symm, l7.trans (hN _ (by omega) (by omega)).symm, fun x hx => (l8 x hx).trans (hN _ (by omega) (by omega)).symm, fun x hx => ?_, fun x hx => ?_, fun x hx => (l11 x hx).trans (hN _ (by omega) (by omega)).symm, fun x hx => (l12 x hx).trans (hN _ (by omega) (by omega)).symm⟩
  · show upd (I 45) Bn (vlE T n p) x = _
    by_cases e : x = Bn
    · subst e
      rw [upS, g1]
    · rw [upN _ _ e, hN _ (by omega) (by omega)]
      exact l9 x (by omega)
  · show upd (I 46) Bn (vlE T n (nxE T n p)) x = _
    by_cases e : x = Bn
    · subst e
      rw [upS, g2]
    · rw [upN _ _ e, hN _ (by omega) (by omega)]
      exact l10 x (by omega)
end V2
end NE2
