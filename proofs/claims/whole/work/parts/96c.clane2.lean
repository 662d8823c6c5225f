/-! THE CLASS: its reader of lanes, the other clauses. -/
section NF2
variable {m0 : xM} {F I : Nat → Nat → Int32} {L : Nat → Nat → Int64} {R : Nat → Nat → Option Nat} {H : Value} {s w : Nat → Int32} {o : Nat} {gg : Prop}
section V3
variable {T : Nat → Int32} {n p d : Nat} {q : Nat → Int32}
theorem c_L_3 {PP Bn Fn Wn : Nat} (hd : 3 ≤ d) (hI : I 2 = T) (tp : TP (F 1) T n p) (hp : p ≤ n) (h4 : n ≤ 400) (hv : LV PP Bn Fn Wn q) (hq : LQ q F I) : Cl d j_Lane_readWet [.ref 43, .ref 1] (CC m0 F I L R H) (gXC m0 F I L R H T n (gL3 T n (p, q))) := by
  rw [show LQ q F I = LG 10 Bn Fn Wn q (F 43) (I 44) (I 45) (I 46) (I 47) (I 48) by unfold LQ; rw [hv.c2, hv.c3, hv.c4]] at hq
  have hP : F 43 6 - 1 = q 0 - 1 := by rw [hq.1]
  unfold gL3
  show Rn d j_Lane_readWet 0 _ _ _ _
  show Rn _ _ _ _ _ _ (gXC m0 F I L R H T n (gBx (gNu T n 0 (q 0 - 1) 200 (p, q)) (fun z => gNu T n 0 9 (100 + cN (z.2 200)) (z.1, q))))
  refine Rn.step (pc' := 1) rfl rfl ?_
  refine Rn.step (pc' := 2) rfl rfl ?_
  refine Rn.iconst (v := 0) (pc' := 3) rfl (by decide) rfl ?_
  refine Rn.iconst (v := 0) (pc' := 4) rfl (by decide) rfl ?_
  refine Rn.step (pc' := 5) rfl rfl ?_
  refine Rn.getf (pc' := 8) rfl rfl rfl rfl rfl ?_
  refine Rn.iconst (v := 1) (pc' := 9) rfl (by decide) rfl ?_
  refine Rn.isub (pc' := 10) rfl rfl ?_
  refine Rn.callV (pc' := 13) rfl (by decide) (by omega) rfl rfl rfl (by rw [hP]; exact c_L_num (to := 0) (by omega) hI tp hp h4 (by omega)) (fun r_ m_ hc_ => ?_)
  by_cases kA : kdE T n p = 2
  rotate_left
  · obtain ⟨rfl, f1, rfl, e1⟩ := hc_.1 kA
    rw [show gNu T n 0 (q 0 - 1) 200 (p, q) = .inl (1 + 8 * p + 0) from if_neg kA]
    refine Rn.ifc_eq (pc1 := 28) (pc2 := 16) rfl rfl rfl (fun h13 => ?_) (fun h13 => absurd (rfl) h13)
    refine Rn.iconst (v := 0) (pc' := 29) rfl (by decide) rfl ?_
    exact Rn.iret rfl (rfl) (gXC.bad ((cFL.rfl F I).f1 f1) e1)
  by_cases nA : nbE T n p 0 (q 0 - 1)
  rotate_left
  · obtain ⟨rfl, f1, rfl, e1⟩ := (hc_.2 kA).1 nA
    rw [show gNu T n 0 (q 0 - 1) 200 (p, q) = .inl (1 + 8 * p + 1) from (if_pos kA).trans (if_neg nA)]
    refine Rn.ifc_eq (pc1 := 28) (pc2 := 16) rfl rfl rfl (fun h13 => ?_) (fun h13 => absurd (rfl) h13)
    refine Rn.iconst (v := 0) (pc' := 29) rfl (by decide) rfl ?_
    exact Rn.iret rfl (rfl) (gXC.bad ((cFL.rfl F I).f1 f1) e1)
  obtain ⟨rfl, f2, rfl, t2⟩ := (hc_.2 kA).2 nA
  have t2k := nx_p kA
  rw [show gNu T n 0 (q 0 - 1) 200 (p, q) = .inr (nxE T n p, upd ((p, q)).2 200 (vlE T n p)) from (if_pos kA).trans (if_pos nA)]
  clear hc_
  have kA1 := kA
  have nA1 := nA
  obtain ⟨x, x1, x2⟩ := nb_0 (m := PP) (by rw [hv.1.1]) (by have := hv.1.2.2; omega) nA
  have hx : cN (upd q 200 (vlE T n p) 200) = x := by rw [upS, x2]; exact nI_clamp (by have := hv.1.2.2; omega)
  show Rn _ _ _ _ _ _ (gXC m0 F I L R H T n (gNu T n 0 9 (100 + cN (upd q 200 (vlE T n p) 200)) (nxE T n p, q)))
  rw [hx]
  refine Rn.ifc_eq (pc1 := 28) (pc2 := 16) rfl rfl rfl (fun h13 => absurd h13 (fun z => absurd z (by decide))) (fun h13 => ?_)
  refine Rn.step (pc' := 17) rfl rfl ?_
  refine Rn.step (pc' := 18) rfl rfl ?_
  refine Rn.iconst (v := 1) (pc' := 19) rfl (by decide) rfl ?_
  refine Rn.iconst (v := 0) (pc' := 20) rfl (by decide) rfl ?_
  refine Rn.iconst (v := 9) (pc' := 22) rfl (by decide) rfl ?_
  refine Rn.callV (pc' := 25) rfl (by decide) (by omega) rfl rfl rfl (c_L_num (to := 1) (by omega) hI t2 t2k h4 (by omega)) (fun r_ m_ hc_ => ?_)
  by_cases kA : kdE T n (nxE T n p) = 2
  rotate_left
  · obtain ⟨rfl, f1, rfl, e1⟩ := hc_.1 kA
    rw [show gNu T n 0 9 (100 + x) (nxE T n p, q) = .inl (1 + 8 * (nxE T n p) + 0) from if_neg kA]
    refine Rn.ifc_ne (pc1 := 30) (pc2 := 28) rfl rfl rfl (fun h25 => absurd h25 (fun z => z rfl)) (fun h25 => ?_)
    refine Rn.iconst (v := 0) (pc' := 29) rfl (by decide) rfl ?_
    exact Rn.iret rfl (rfl) (gXC.bad ((((cFL.rfl F I).f1 f2).ii _ (by omega)).f1 f1) e1)
  by_cases nA : nbE T n (nxE T n p) 0 9
  rotate_left
  · obtain ⟨rfl, f1, rfl, e1⟩ := (hc_.2 kA).1 nA
    rw [show gNu T n 0 9 (100 + x) (nxE T n p, q) = .inl (1 + 8 * (nxE T n p) + 1) from (if_pos kA).trans (if_neg nA)]
    refine Rn.ifc_ne (pc1 := 30) (pc2 := 28) rfl rfl rfl (fun h25 => absurd h25 (fun z => z rfl)) (fun h25 => ?_)
    refine Rn.iconst (v := 0) (pc' := 29) rfl (by decide) rfl ?_
    exact Rn.iret rfl (rfl) (gXC.bad ((((cFL.rfl F I).f1 f2).ii _ (by omega)).f1 f1) e1)
  obtain ⟨rfl, f3, rfl, t3⟩ := (hc_.2 kA).2 nA
  have t3k := nx_p kA
  rw [show gNu T n 0 9 (100 + x) (nxE T n p, q) = .inr (nxE T n (nxE T n p), upd ((nxE T n p, q)).2 (100 + x) (vlE T n (nxE T n p))) from (if_pos kA).trans (if_pos nA)]
  clear hc_
  refine Rn.ifc_ne (pc1 := 30) (pc2 := 28) rfl rfl rfl (fun h25 => ?_) (fun h25 => absurd h25 (fun z => absurd z (by decide)))
  refine Rn.step (pc' := 31) rfl rfl ?_
  refine Rn.getf (pc' := 34) rfl rfl rfl rfl rfl ?_
  refine Rn.step (pc' := 35) rfl rfl ?_
  refine Rn.getf (pc' := 38) rfl rfl rfl rfl rfl ?_
  refine Rn.iconst (v := 0) (pc' := 39) rfl (by decide) rfl ?_
  refine Rn.cald (k := 0) (pc' := 40) rfl rfl (by simp only [nI_lit, nI_add, pk_mul, Nat.zero_add]) (by omega) ((rfl : _ = vlE T n p)) (by decide) rfl ?_
  refine Rn.step (pc' := 41) rfl rfl ?_
  refine Rn.getf (pc' := 44) rfl rfl rfl rfl rfl ?_
  refine Rn.iconst (v := 1) (pc' := 45) rfl (by decide) rfl ?_
  refine Rn.cald (k := 1) (pc' := 46) rfl rfl (by simp only [nI_lit, nI_add, pk_mul, Nat.zero_add]) (by omega) ((rfl : _ = vlE T n (nxE T n p))) (by decide) rfl ?_
  refine Rn.cast (k := x) (pc' := 47) rfl rfl (by exact x2) (by have := hv.1.2.2; omega) (by decide) rfl ?_
  refine Rn.iconst (v := 1) (pc' := 48) rfl (by decide) rfl ?_
  refine Rn.iret rfl rfl (⟨_, _, rfl, (((((cFL.rfl F I).f1 f2).ii _ (by omega)).f1 f3).ii _ (by omega)).ii _ (by omega), rfl, t3, ?_⟩)
  have hp10 := hv.1.2.2
  have hN : ∀ j, j ≠ 100 + x → upd q (100 + x) (vlE T n (nxE T n p)) j = q j := fun j h1 => upN _ _ h1
  show LG 10 (cN (upd q (100 + x) (vlE T n (nxE T n p)) 2)) (cN (upd q (100 + x) (vlE T n (nxE T n p)) 3)) (cN (upd q (100 + x) (vlE T n (nxE T n p)) 4)) (upd q (100 + x) (vlE T n (nxE T n p))) _ _ _ _ _ _
  rw [hN 2 (by omega), hN 3 (by omega), hN 4 (by omega), hv.c2, hv.c3, hv.c4]
  obtain ⟨l1, l2, l3, l4, l5, l6, l7, l8, l9, l10, l11, l12⟩ := hq
  have b6 := hv.2.1.2
  have b4 := hv.2.2.1.2
  have b10 := hv.2.2.2.1.2
  refine ⟨l1.trans (hN _ (by omega)).symm, l2.trans (hN _ (by omega)).symm, l3.trans (hN _ (by omega)).symm, l4.trans (hN _ (by omega)).symm, l5.trans (hN _ (by omega)).symm, l6.trans (hN _ (by omega)).symm, l7.trans (hN _ (by omega)).symm, fun y hy => ?_, fun y hy => (l9 y hy).trans (hN _ (by omega)).symm, fun y hy => (l10 y hy).trans (hN _ (by omega)).symm, fun y hy => (l11 y hy).trans (hN _ (by omega)).symm, fun y hy => (l12 y hy).trans (hN _ (by omega)).symm⟩
  show upd (I 44) x (vlE T n (nxE T n p)) y = _
  by_cases e : y = x
  · subst e
    rw [upS, upS]
  · rw [upN _ _ e, hN _ (by omega)]
    exact l8 y hy
theorem c_L_4 {PP Bn Fn Wn : Nat} (hd : 3 ≤ d) (hI : I 2 = T) (tp : TP (F 1) T n p) (hp : p ≤ n) (h4 : n ≤ 400) (hv : LV PP Bn Fn Wn q) (hq : LQ q F I) (hB6 : Fn < 4) : Cl d j_Lane_readFrost [.ref 43, .ref 1] (CC m0 F I L R H) (gXC m0 F I L R H T n (gL4 T n (52 + 2 * Fn) (p, q))) := by
  rw [show LQ q F I = LG 10 Bn Fn Wn q (F 43) (I 44) (I 45) (I 46) (I 47) (I 48) by unfold LQ; rw [hv.c2, hv.c3, hv.c4]] at hq
  have hB : F 43 11 = nI Fn := by rw [hq.2.2.2.2.2.1]; exact hv.2.2.1.1
  have hX : kdE T n p = 2 → nbE T n p 0 23 → kdE T n (nxE T n p) = 2 → nbE T n (nxE T n p) (vlE T n p) 23 → gL4 T n (52 + 2 * Fn) (p, q) = .inr (nxE T n (nxE T n p), upd (upd (upd q (52 + 2 * Fn) (vlE T n p)) (52 + 2 * Fn + 1) (vlE T n (nxE T n p))) 3 ((upd (upd q (52 + 2 * Fn) (vlE T n p)) (52 + 2 * Fn + 1) (vlE T n (nxE T n p))) 3 + 1)) := fun a b c e => by
    unfold gL4
    rw [show gNu T n 0 23 (52 + 2 * Fn) (p, q) = _ from (if_pos a).trans (if_pos b)]
    show gBx (gNu T n (upd q (52 + 2 * Fn) (vlE T n p) (52 + 2 * Fn)) 23 (52 + 2 * Fn + 1) (nxE T n p, upd q (52 + 2 * Fn) (vlE T n p))) (gKo 3) = _
    rw [upS, show gNu T n (vlE T n p) 23 (52 + 2 * Fn + 1) (nxE T n p, upd q (52 + 2 * Fn) (vlE T n p)) = _ from (if_pos c).trans (if_pos e)]
    rfl
  unfold gL4
  show Rn d j_Lane_readFrost 0 _ _ _ _
  refine Rn.step (pc' := 1) rfl rfl ?_
  refine Rn.step (pc' := 2) rfl rfl ?_
  refine Rn.iconst (v := 0) (pc' := 3) rfl (by decide) rfl ?_
  refine Rn.iconst (v := 0) (pc' := 4) rfl (by decide) rfl ?_
  refine Rn.iconst (v := 23) (pc' := 6) rfl (by decide) rfl ?_
  refine Rn.callV (pc' := 9) rfl (by decide) (by omega) rfl rfl rfl (c_L_num (to := 0) (by omega) hI tp hp h4 (by omega)) (fun r_ m_ hc_ => ?_)
  by_cases kA : kdE T n p = 2
  rotate_left
  · obtain ⟨rfl, f1, rfl, e1⟩ := hc_.1 kA
    rw [show gNu T n 0 23 (52 + 2 * Fn) (p, q) = .inl (1 + 8 * p + 0) from if_neg kA]
    refine Rn.ifc_eq (pc1 := 29) (pc2 := 12) rfl rfl rfl (fun h9 => ?_) (fun h9 => absurd (rfl) h9)
    refine Rn.iconst (v := 0) (pc' := 30) rfl (by decide) rfl ?_
    exact Rn.iret rfl (rfl) (gXC.bad ((cFL.rfl F I).f1 f1) e1)
  by_cases nA : nbE T n p 0 23
  rotate_left
  · obtain ⟨rfl, f1, rfl, e1⟩ := (hc_.2 kA).1 nA
    rw [show gNu T n 0 23 (52 + 2 * Fn) (p, q) = .inl (1 + 8 * p + 1) from (if_pos kA).trans (if_neg nA)]
    refine Rn.ifc_eq (pc1 := 29) (pc2 := 12) rfl rfl rfl (fun h9 => ?_) (fun h9 => absurd (rfl) h9)
    refine Rn.iconst (v := 0) (pc' := 30) rfl (by decide) rfl ?_
    exact Rn.iret rfl (rfl) (gXC.bad ((cFL.rfl F I).f1 f1) e1)
  obtain ⟨rfl, f2, rfl, t2⟩ := (hc_.2 kA).2 nA
  have t2k := nx_p kA
  rw [show gNu T n 0 23 (52 + 2 * Fn) (p, q) = .inr (nxE T n p, upd ((p, q)).2 (52 + 2 * Fn) (vlE T n p)) from (if_pos kA).trans (if_pos nA)]
  clear hc_
  have kA1 := kA
  have nA1 := nA
  show Rn _ _ _ _ _ _ (gXC m0 F I L R H T n (gBx (gNu T n (upd q (52 + 2 * Fn) (vlE T n p) (52 + 2 * Fn)) 23 (52 + 2 * Fn + 1) (nxE T n p, upd q (52 + 2 * Fn) (vlE T n p))) (gKo 3)))
  rw [upS]
  refine Rn.ifc_eq (pc1 := 29) (pc2 := 12) rfl rfl rfl (fun h9 => absurd h9 (fun z => absurd z (by decide))) (fun h9 => ?_)
  refine Rn.step (pc' := 13) rfl rfl ?_
  refine Rn.step (pc' := 14) rfl rfl ?_
  refine Rn.iconst (v := 1) (pc' := 15) rfl (by decide) rfl ?_
  refine Rn.step (pc' := 16) rfl rfl ?_
  refine Rn.getf (pc' := 19) rfl rfl rfl rfl rfl ?_
  refine Rn.iconst (v := 0) (pc' := 20) rfl (by decide) rfl ?_
  refine Rn.cald (k := 0) (pc' := 21) rfl rfl (by simp only [nI_lit, nI_add, pk_mul, Nat.zero_add]) (by omega) ((rfl : _ = vlE T n p)) (by decide) rfl ?_
  refine Rn.iconst (v := 23) (pc' := 23) rfl (by decide) rfl ?_
  refine Rn.callV (pc' := 26) rfl (by decide) (by omega) rfl rfl rfl (c_L_num (to := 1) (by omega) hI t2 t2k h4 (by omega)) (fun r_ m_ hc_ => ?_)
  by_cases kA : kdE T n (nxE T n p) = 2
  rotate_left
  · obtain ⟨rfl, f1, rfl, e1⟩ := hc_.1 kA
    rw [show gNu T n (vlE T n p) 23 (52 + 2 * Fn + 1) (nxE T n p, upd q (52 + 2 * Fn) (vlE T n p)) = .inl (1 + 8 * (nxE T n p) + 0) from if_neg kA]
    refine Rn.ifc_ne (pc1 := 31) (pc2 := 29) rfl rfl rfl (fun h26 => absurd h26 (fun z => z rfl)) (fun h26 => ?_)
    refine Rn.iconst (v := 0) (pc' := 30) rfl (by decide) rfl ?_
    exact Rn.iret rfl (rfl) (gXC.bad ((((cFL.rfl F I).f1 f2).ii _ (by omega)).f1 f1) e1)
  by_cases nA : nbE T n (nxE T n p) (vlE T n p) 23
  rotate_left
  · obtain ⟨rfl, f1, rfl, e1⟩ := (hc_.2 kA).1 nA
    rw [show gNu T n (vlE T n p) 23 (52 + 2 * Fn + 1) (nxE T n p, upd q (52 + 2 * Fn) (vlE T n p)) = .inl (1 + 8 * (nxE T n p) + 1) from (if_pos kA).trans (if_neg nA)]
    refine Rn.ifc_ne (pc1 := 31) (pc2 := 29) rfl rfl rfl (fun h26 => absurd h26 (fun z => z rfl)) (fun h26 => ?_)
    refine Rn.iconst (v := 0) (pc' := 30) rfl (by decide) rfl ?_
    exact Rn.iret rfl (rfl) (gXC.bad ((((cFL.rfl F I).f1 f2).ii _ (by omega)).f1 f1) e1)
  obtain ⟨rfl, f3, rfl, t3⟩ := (hc_.2 kA).2 nA
  have t3k := nx_p kA
  rw [show gNu T n (vlE T n p) 23 (52 + 2 * Fn + 1) (nxE T n p, upd q (52 + 2 * Fn) (vlE T n p)) = .inr (nxE T n (nxE T n p), upd ((nxE T n p, upd q (52 + 2 * Fn) (vlE T n p))).2 (52 + 2 * Fn + 1) (vlE T n (nxE T n p))) from (if_pos kA).trans (if_pos nA)]
  clear hc_
  refine Rn.ifc_ne (pc1 := 31) (pc2 := 29) rfl rfl rfl (fun h26 => ?_) (fun h26 => absurd h26 (fun z => absurd z (by decide)))
  refine Rn.step (pc' := 32) rfl rfl ?_
  refine Rn.getf (pc' := 35) rfl rfl rfl rfl rfl ?_
  refine Rn.iconst (v := 2) (pc' := 36) rfl (by decide) rfl ?_
  refine Rn.step (pc' := 37) rfl rfl ?_
  refine Rn.getf (pc' := 40) rfl rfl rfl rfl rfl ?_
  rw [show va_up (va_up F 1 f2) 1 f3 43 11 = F 43 11 from rfl]
  refine Rn.imul (pc' := 41) rfl rfl ?_
  refine Rn.step (pc' := 42) rfl rfl ?_
  refine Rn.getf (pc' := 45) rfl rfl rfl rfl rfl ?_
  refine Rn.iconst (v := 0) (pc' := 46) rfl (by decide) rfl ?_
  refine Rn.cald (k := 0) (pc' := 47) rfl rfl (by simp only [nI_lit, nI_add, pk_mul, Nat.zero_add]) (by omega) ((rfl : _ = vlE T n p)) (by decide) rfl ?_
  refine Rn.cast (k := 2 * Fn) (pc' := 48) rfl rfl (by rw [hB]; simp only [nI_lit, pk_mul]) (by omega) (by decide) rfl ?_
  refine Rn.step (pc' := 49) rfl rfl ?_
  refine Rn.getf (pc' := 52) rfl rfl rfl rfl rfl ?_
  refine Rn.iconst (v := 2) (pc' := 53) rfl (by decide) rfl ?_
  refine Rn.step (pc' := 54) rfl rfl ?_
  refine Rn.getf (pc' := 57) rfl rfl rfl rfl rfl ?_
  rw [show va_up (va_up F 1 f2) 1 f3 43 11 = F 43 11 from rfl]
  refine Rn.imul (pc' := 58) rfl rfl ?_
  refine Rn.iconst (v := 1) (pc' := 59) rfl (by decide) rfl ?_
  refine Rn.iadd (pc' := 60) rfl rfl ?_
  refine Rn.step (pc' := 61) rfl rfl ?_
  refine Rn.getf (pc' := 64) rfl rfl rfl rfl rfl ?_
  refine Rn.iconst (v := 1) (pc' := 65) rfl (by decide) rfl ?_
  refine Rn.cald (k := 1) (pc' := 66) rfl rfl (by simp only [nI_lit, nI_add, pk_mul, Nat.zero_add]) (by omega) ((rfl : _ = vlE T n (nxE T n p))) (by decide) rfl ?_
  refine Rn.cast (k := 2 * Fn + 1) (pc' := 67) rfl rfl (by rw [hB]; simp only [nI_lit, pk_mul, nI_add]) (by omega) (by decide) rfl ?_
  refine Rn.step (pc' := 68) rfl rfl ?_
  refine Rn.step (pc' := 69) rfl rfl ?_
  refine Rn.getf (pc' := 72) rfl rfl rfl rfl rfl ?_
  refine Rn.iconst (v := 1) (pc' := 73) rfl (by decide) rfl ?_
  refine Rn.iadd (pc' := 74) rfl rfl ?_
  rw [show va_up (va_up F 1 f2) 1 f3 43 11 + 1 = nI (Fn + 1) by show F 43 11 + 1 = _; rw [hB, nI_lit, nI_add]]
  refine Rn.cput (pc' := 77) rfl rfl rfl rfl rfl (by decide) rfl ?_
  refine Rn.iconst (v := 1) (pc' := 78) rfl (by decide) rfl ?_
  refine Rn.iret rfl rfl (⟨_, _, rfl, (((((((cFL.rfl F I).f1 f2).ii _ (by omega)).f1 f3).ii _ (by omega)).ii _ (by omega)).ii _ (by omega)).f43 _, rfl, t3, ?_⟩)
  have hv2 := gL4_v (T := T) (n := n) (p := p) hv hB6 (hX kA1 nA1 kA nA)
  have hN : ∀ j, j ≠ 3 → (j < 52 + 2 * Fn ∨ 54 + 2 * Fn ≤ j) → (upd (upd (upd q (52 + 2 * Fn) (vlE T n p)) (52 + 2 * Fn + 1) (vlE T n (nxE T n p))) 3 ((upd (upd q (52 + 2 * Fn) (vlE T n p)) (52 + 2 * Fn + 1) (vlE T n (nxE T n p))) 3 + 1)) j = q j := fun j h1 h2 => by rw [upN _ _ (by omega), upN _ _ (by omega), upN _ _ (by omega)]
  have g0 : (upd (upd (upd q (52 + 2 * Fn) (vlE T n p)) (52 + 2 * Fn + 1) (vlE T n (nxE T n p))) 3 ((upd (upd q (52 + 2 * Fn) (vlE T n p)) (52 + 2 * Fn + 1) (vlE T n (nxE T n p))) 3 + 1)) (52 + 2 * Fn) = vlE T n p := by rw [upN _ _ (by omega), upN _ _ (by omega), upS]
  have g1 : (upd (upd (upd q (52 + 2 * Fn) (vlE T n p)) (52 + 2 * Fn + 1) (vlE T n (nxE T n p))) 3 ((upd (upd q (52 + 2 * Fn) (vlE T n p)) (52 + 2 * Fn + 1) (vlE T n (nxE T n p))) 3 + 1)) (52 + 2 * Fn + 1) = vlE T n (nxE T n p) := by rw [upN _ _ (by omega), upS]
  show LQ (upd (upd (upd q (52 + 2 * Fn) (vlE T n p)) (52 + 2 * Fn + 1) (vlE T n (nxE T n p))) 3 ((upd (upd q (52 + 2 * Fn) (vlE T n p)) (52 + 2 * Fn + 1) (vlE T n (nxE T n p))) 3 + 1)) _ _
  dsimp only at hv2
  generalize upd (upd (upd q (52 + 2 * Fn) (vlE T n p)) (52 + 2 * Fn + 1) (vlE T n (nxE T n p))) 3 ((upd (upd q (52 + 2 * Fn) (vlE T n p)) (52 + 2 * Fn + 1) (vlE T n (nxE T n p))) 3 + 1) = q' at hv2 hN g0 g1 ⊢
  unfold LQ
  rw [hv2.1.c2, hv2.1.c3, hv2.1.c4]
  obtain ⟨l1, l2, l3, l4, l5, l6, l7, l8, l9, l10, l11, l12⟩ := hq
  have b6 := hv.2.1.2
  have b10 := hv.2.2.2.1.2
  refine ⟨l1.trans (hN _ (by omega) (by omega)).symm, l2.trans (hN _ (by omega) (by omega)).symm, l3.trans (hN _ (by omega) (by omega)).symm, l4.trans (hN _ (by omega) (by omega)).symm, l5.trans (hN _ (by omega) (by omega)).symm, hv2.1.2.2.1.1.symm, l7.trans (hN _ (by omega) (by omega)).symm, fun y hy => (l8 y hy).trans (hN _ (by omega) (by omega)).symm, fun y hy => (l9 y hy).trans (hN _ (by omega) (by omega)).symm, fun y hy => (l10 y hy).trans (hN _ (by omega) (by omega)).symm, fun y hy => ?_, fun y hy => (l12 y hy).trans (hN _ (by omega) (by omega)).symm⟩
  show upd (upd (I 47) (2 * Fn) (vlE T n p)) (2 * Fn + 1) (vlE T n (nxE T n p)) y = _
  by_cases e : y = 2 * Fn + 1
  · subst e
    rw [upS, ← g1]
    rfl
  · rw [upN _ _ e]
    by_cases e2 : y = 2 * Fn
    · subst e2
      rw [upS, ← g0]
    · rw [upN _ _ e2, hN _ (by omega) (by omega)]
      exact l11 y (by omega)
theorem c_L_5 {PP Bn Fn Wn : Nat} (hd : 3 ≤ d) (hI : I 2 = T) (tp : TP (F 1) T n p) (hp : p ≤ n) (h4 : n ≤ 400) (hv : LV PP Bn Fn Wn q) (hq : LQ q F I) (hB6 : Wn < 10) : Cl d j_Lane_readWant [.ref 43, .ref 1] (CC m0 F I L R H) (gXC m0 F I L R H T n (gL5 T n (60 + 4 * Wn) (p, q))) := by
  rw [show LQ q F I = LG 10 Bn Fn Wn q (F 43) (I 44) (I 45) (I 46) (I 47) (I 48) by unfold LQ; rw [hv.c2, hv.c3, hv.c4]] at hq
  have hB : F 43 12 = nI Wn := by rw [hq.2.2.2.2.2.2.1]; exact hv.2.2.2.1.1
  have hP : F 43 6 - 1 = q 0 - 1 := by rw [hq.1]
  have hBq : F 43 10 - 1 = q 2 - 1 := by rw [hq.2.2.2.2.1]
  have hX : kdE T n p = 2 → nbE T n p 0 (q 2 - 1) → kdE T n (nxE T n p) = 2 → nbE T n (nxE T n p) 0 (q 0 - 1) → kdE T n (nxE T n (nxE T n p)) = 2 → nbE T n (nxE T n (nxE T n p)) 0 23 → kdE T n (nxE T n (nxE T n (nxE T n p))) = 2 → nbE T n (nxE T n (nxE T n (nxE T n p))) 1 50 → gL5 T n (60 + 4 * Wn) (p, q) = .inr (nxE T n (nxE T n (nxE T n (nxE T n p))), upd (upd (upd (upd (upd q (60 + 4 * Wn) (vlE T n p)) ((60 + 4 * Wn) + 1) (vlE T n (nxE T n p))) ((60 + 4 * Wn) + 2) (vlE T n (nxE T n (nxE T n p)))) ((60 + 4 * Wn) + 3) (vlE T n (nxE T n (nxE T n (nxE T n p))))) 4 ((upd (upd (upd (upd q (60 + 4 * Wn) (vlE T n p)) ((60 + 4 * Wn) + 1) (vlE T n (nxE T n p))) ((60 + 4 * Wn) + 2) (vlE T n (nxE T n (nxE T n p)))) ((60 + 4 * Wn) + 3) (vlE T n (nxE T n (nxE T n (nxE T n p))))) 4 + 1)) := fun a b c e f g h i => by
    unfold gL5
    rw [show gNu T n 0 ((p, q).2 2 - 1) (60 + 4 * Wn) (p, q) = _ from (if_pos a).trans (if_pos b)]
    show gBx (gNu T n 0 (upd q (60 + 4 * Wn) (vlE T n p) 0 - 1) ((60 + 4 * Wn) + 1) ((nxE T n p), upd q (60 + 4 * Wn) (vlE T n p))) (fun b => gBx (gNu T n 0 23 ((60 + 4 * Wn) + 2) b) (fun c => gBx (gNu T n 1 50 ((60 + 4 * Wn) + 3) c) (gKo 4))) = _
    rw [upN q (k := (60 + 4 * Wn)) (j := 0) _ (by omega), show gNu T n 0 (q 0 - 1) ((60 + 4 * Wn) + 1) ((nxE T n p), upd q (60 + 4 * Wn) (vlE T n p)) = _ from (if_pos c).trans (if_pos e)]
    show gBx (gNu T n 0 23 ((60 + 4 * Wn) + 2) ((nxE T n (nxE T n p)), upd (upd q (60 + 4 * Wn) (vlE T n p)) ((60 + 4 * Wn) + 1) (vlE T n (nxE T n p)))) (fun c => gBx (gNu T n 1 50 ((60 + 4 * Wn) + 3) c) (gKo 4)) = _
    rw [show gNu T n 0 23 ((60 + 4 * Wn) + 2) ((nxE T n (nxE T n p)), upd (upd q (60 + 4 * Wn) (vlE T n p)) ((60 + 4 * Wn) + 1) (vlE T n (nxE T n p))) = _ from (if_pos f).trans (if_pos g)]
    show gBx (gNu T n 1 50 ((60 + 4 * Wn) + 3) ((nxE T n (nxE T n (nxE T n p))), upd (upd (upd q (60 + 4 * Wn) (vlE T n p)) ((60 + 4 * Wn) + 1) (vlE T n (nxE T n p))) ((60 + 4 * Wn) + 2) (vlE T n (nxE T n (nxE T n p))))) (gKo 4) = _
    rw [show gNu T n 1 50 ((60 + 4 * Wn) + 3) ((nxE T n (nxE T n (nxE T n p))), upd (upd (upd q (60 + 4 * Wn) (vlE T n p)) ((60 + 4 * Wn) + 1) (vlE T n (nxE T n p))) ((60 + 4 * Wn) + 2) (vlE T n (nxE T n (nxE T n p)))) = _ from (if_pos h).trans (if_pos i)]
    rfl
  unfold gL5
  show Rn d j_Lane_readWant 0 _ _ _ _
  show Rn _ _ _ _ _ _ (gXC m0 F I L R H T n (gBx (gNu T n 0 (q 2 - 1) (60 + 4 * Wn) (p, q)) (fun a => gBx (gNu T n 0 (a.2 0 - 1) ((60 + 4 * Wn) + 1) a) (fun b => gBx (gNu T n 0 23 ((60 + 4 * Wn) + 2) b) (fun c => gBx (gNu T n 1 50 ((60 + 4 * Wn) + 3) c) (gKo 4))))))
  refine Rn.step (pc' := 1) rfl rfl ?_
  refine Rn.step (pc' := 2) rfl rfl ?_
  refine Rn.iconst (v := 0) (pc' := 3) rfl (by decide) rfl ?_
  refine Rn.iconst (v := 0) (pc' := 4) rfl (by decide) rfl ?_
  refine Rn.step (pc' := 5) rfl rfl ?_
  refine Rn.getf (pc' := 8) rfl rfl rfl rfl rfl ?_
  refine Rn.iconst (v := 1) (pc' := 9) rfl (by decide) rfl ?_
  refine Rn.isub (pc' := 10) rfl rfl ?_
  refine Rn.callV (pc' := 13) rfl (by decide) (by omega) rfl rfl rfl (by rw [hBq]; exact c_L_num (to := 0) (by omega) hI tp hp h4 (by omega)) (fun r_ m_ hc_ => ?_)
  by_cases kA : kdE T n p = 2
  rotate_left
  · obtain ⟨rfl, f1, rfl, e1⟩ := hc_.1 kA
    rw [show gNu T n 0 (q 2 - 1) (60 + 4 * Wn) (p, q) = .inl (1 + 8 * p + 0) from if_neg kA]
    refine Rn.ifc_eq (pc1 := 60) (pc2 := 16) rfl rfl rfl (fun h13 => ?_) (fun h13 => absurd (rfl) h13)
    refine Rn.iconst (v := 0) (pc' := 61) rfl (by decide) rfl ?_
    refine Rn.step (pc' := 62) rfl rfl ?_
    refine Rn.step (pc' := 63) rfl rfl ?_
    refine Rn.ifc_ne (pc1 := 68) (pc2 := 66) rfl rfl rfl (fun h63 => absurd h63 (fun z => z rfl)) (fun h63 => ?_)
    refine Rn.iconst (v := 0) (pc' := 67) rfl (by decide) rfl ?_
    exact Rn.iret rfl (rfl) (gXC.bad ((cFL.rfl F I).f1 f1) e1)
  by_cases nA : nbE T n p 0 (q 2 - 1)
  rotate_left
  · obtain ⟨rfl, f1, rfl, e1⟩ := (hc_.2 kA).1 nA
    rw [show gNu T n 0 (q 2 - 1) (60 + 4 * Wn) (p, q) = .inl (1 + 8 * p + 1) from (if_pos kA).trans (if_neg nA)]
    refine Rn.ifc_eq (pc1 := 60) (pc2 := 16) rfl rfl rfl (fun h13 => ?_) (fun h13 => absurd (rfl) h13)
    refine Rn.iconst (v := 0) (pc' := 61) rfl (by decide) rfl ?_
    refine Rn.step (pc' := 62) rfl rfl ?_
    refine Rn.step (pc' := 63) rfl rfl ?_
    refine Rn.ifc_ne (pc1 := 68) (pc2 := 66) rfl rfl rfl (fun h63 => absurd h63 (fun z => z rfl)) (fun h63 => ?_)
    refine Rn.iconst (v := 0) (pc' := 67) rfl (by decide) rfl ?_
    exact Rn.iret rfl (rfl) (gXC.bad ((cFL.rfl F I).f1 f1) e1)
  obtain ⟨rfl, f2, rfl, t2⟩ := (hc_.2 kA).2 nA
  have t2k := nx_p kA
  rw [show gNu T n 0 (q 2 - 1) (60 + 4 * Wn) (p, q) = .inr (nxE T n p, upd ((p, q)).2 (60 + 4 * Wn) (vlE T n p)) from (if_pos kA).trans (if_pos nA)]
  clear hc_
  have kA1 := kA
  have nA1 := nA
  show Rn _ _ _ _ _ _ (gXC m0 F I L R H T n (gBx (gNu T n 0 (upd q (60 + 4 * Wn) (vlE T n p) 0 - 1) ((60 + 4 * Wn) + 1) ((nxE T n p), upd q (60 + 4 * Wn) (vlE T n p))) (fun b => gBx (gNu T n 0 23 ((60 + 4 * Wn) + 2) b) (fun c => gBx (gNu T n 1 50 ((60 + 4 * Wn) + 3) c) (gKo 4)))))
  rw [upN q (k := (60 + 4 * Wn)) (j := 0) _ (by omega)]
  refine Rn.ifc_eq (pc1 := 60) (pc2 := 16) rfl rfl rfl (fun h13 => absurd h13 (fun z => absurd z (by decide))) (fun h13 => ?_)
  refine Rn.step (pc' := 17) rfl rfl ?_
  refine Rn.step (pc' := 18) rfl rfl ?_
  refine Rn.iconst (v := 1) (pc' := 19) rfl (by decide) rfl ?_
  refine Rn.iconst (v := 0) (pc' := 20) rfl (by decide) rfl ?_
  refine Rn.step (pc' := 21) rfl rfl ?_
  refine Rn.getf (pc' := 24) rfl rfl rfl rfl rfl ?_
  refine Rn.iconst (v := 1) (pc' := 25) rfl (by decide) rfl ?_
  refine Rn.isub (pc' := 26) rfl rfl ?_
  refine Rn.callV (pc' := 29) rfl (by decide) (by omega) rfl rfl rfl (by rw [show va_up F 1 f2 43 6 - 1 = q 0 - 1 from hP]; exact c_L_num (to := 1) (by omega) hI t2 t2k h4 (by omega)) (fun r_ m_ hc_ => ?_)
  by_cases kA : kdE T n (nxE T n p) = 2
  rotate_left
  · obtain ⟨rfl, f1, rfl, e1⟩ := hc_.1 kA
    rw [show gNu T n 0 (q 0 - 1) ((60 + 4 * Wn) + 1) ((nxE T n p), upd q (60 + 4 * Wn) (vlE T n p)) = .inl (1 + 8 * (nxE T n p) + 0) from if_neg kA]
    refine Rn.ifc_eq (pc1 := 60) (pc2 := 32) rfl rfl rfl (fun h29 => ?_) (fun h29 => absurd (rfl) h29)
    refine Rn.iconst (v := 0) (pc' := 61) rfl (by decide) rfl ?_
    refine Rn.step (pc' := 62) rfl rfl ?_
    refine Rn.step (pc' := 63) rfl rfl ?_
    refine Rn.ifc_ne (pc1 := 68) (pc2 := 66) rfl rfl rfl (fun h63 => absurd h63 (fun z => z rfl)) (fun h63 => ?_)
    refine Rn.iconst (v := 0) (pc' := 67) rfl (by decide) rfl ?_
    exact Rn.iret rfl (rfl) (gXC.bad ((((cFL.rfl F I).f1 f2).ii _ (by omega)).f1 f1) e1)
  by_cases nA : nbE T n (nxE T n p) 0 (q 0 - 1)
  rotate_left
  · obtain ⟨rfl, f1, rfl, e1⟩ := (hc_.2 kA).1 nA
    rw [show gNu T n 0 (q 0 - 1) ((60 + 4 * Wn) + 1) ((nxE T n p), upd q (60 + 4 * Wn) (vlE T n p)) = .inl (1 + 8 * (nxE T n p) + 1) from (if_pos kA).trans (if_neg nA)]
    refine Rn.ifc_eq (pc1 := 60) (pc2 := 32) rfl rfl rfl (fun h29 => ?_) (fun h29 => absurd (rfl) h29)
    refine Rn.iconst (v := 0) (pc' := 61) rfl (by decide) rfl ?_
    refine Rn.step (pc' := 62) rfl rfl ?_
    refine Rn.step (pc' := 63) rfl rfl ?_
    refine Rn.ifc_ne (pc1 := 68) (pc2 := 66) rfl rfl rfl (fun h63 => absurd h63 (fun z => z rfl)) (fun h63 => ?_)
    refine Rn.iconst (v := 0) (pc' := 67) rfl (by decide) rfl ?_
    exact Rn.iret rfl (rfl) (gXC.bad ((((cFL.rfl F I).f1 f2).ii _ (by omega)).f1 f1) e1)
  obtain ⟨rfl, f3, rfl, t3⟩ := (hc_.2 kA).2 nA
  have t3k := nx_p kA
  rw [show gNu T n 0 (q 0 - 1) ((60 + 4 * Wn) + 1) ((nxE T n p), upd q (60 + 4 * Wn) (vlE T n p)) = .inr (nxE T n (nxE T n p), upd (((nxE T n p), upd q (60 + 4 * Wn) (vlE T n p))).2 ((60 + 4 * Wn) + 1) (vlE T n (nxE T n p))) from (if_pos kA).trans (if_pos nA)]
  clear hc_
  have kA2 := kA
  have nA2 := nA
  show Rn _ _ _ _ _ _ (gXC m0 F I L R H T n (gBx (gNu T n 0 23 ((60 + 4 * Wn) + 2) ((nxE T n (nxE T n p)), upd (upd q (60 + 4 * Wn) (vlE T n p)) ((60 + 4 * Wn) + 1) (vlE T n (nxE T n p)))) (fun c => gBx (gNu T n 1 50 ((60 + 4 * Wn) + 3) c) (gKo 4))))
  refine Rn.ifc_eq (pc1 := 60) (pc2 := 32) rfl rfl rfl (fun h29 => absurd h29 (fun z => absurd z (by decide))) (fun h29 => ?_)
  refine Rn.step (pc' := 33) rfl rfl ?_
  refine Rn.step (pc' := 34) rfl rfl ?_
  refine Rn.iconst (v := 2) (pc' := 35) rfl (by decide) rfl ?_
  refine Rn.iconst (v := 0) (pc' := 36) rfl (by decide) rfl ?_
  refine Rn.iconst (v := 23) (pc' := 38) rfl (by decide) rfl ?_
  refine Rn.callV (pc' := 41) rfl (by decide) (by omega) rfl rfl rfl (c_L_num (to := 2) (by omega) hI t3 t3k h4 (by omega)) (fun r_ m_ hc_ => ?_)
  by_cases kA : kdE T n (nxE T n (nxE T n p)) = 2
  rotate_left
  · obtain ⟨rfl, f1, rfl, e1⟩ := hc_.1 kA
    rw [show gNu T n 0 23 ((60 + 4 * Wn) + 2) ((nxE T n (nxE T n p)), upd (upd q (60 + 4 * Wn) (vlE T n p)) ((60 + 4 * Wn) + 1) (vlE T n (nxE T n p))) = .inl (1 + 8 * (nxE T n (nxE T n p)) + 0) from if_neg kA]
    refine Rn.ifc_eq (pc1 := 60) (pc2 := 44) rfl rfl rfl (fun h41 => ?_) (fun h41 => absurd (rfl) h41)
    refine Rn.iconst (v := 0) (pc' := 61) rfl (by decide) rfl ?_
    refine Rn.step (pc' := 62) rfl rfl ?_
    refine Rn.step (pc' := 63) rfl rfl ?_
    refine Rn.ifc_ne (pc1 := 68) (pc2 := 66) rfl rfl rfl (fun h63 => absurd h63 (fun z => z rfl)) (fun h63 => ?_)
    refine Rn.iconst (v := 0) (pc' := 67) rfl (by decide) rfl ?_
    exact Rn.iret rfl (rfl) (gXC.bad ((((((cFL.rfl F I).f1 f2).ii _ (by omega)).f1 f3).ii _ (by omega)).f1 f1) e1)
  by_cases nA : nbE T n (nxE T n (nxE T n p)) 0 23
  rotate_left
  · obtain ⟨rfl, f1, rfl, e1⟩ := (hc_.2 kA).1 nA
    rw [show gNu T n 0 23 ((60 + 4 * Wn) + 2) ((nxE T n (nxE T n p)), upd (upd q (60 + 4 * Wn) (vlE T n p)) ((60 + 4 * Wn) + 1) (vlE T n (nxE T n p))) = .inl (1 + 8 * (nxE T n (nxE T n p)) + 1) from (if_pos kA).trans (if_neg nA)]
    refine Rn.ifc_eq (pc1 := 60) (pc2 := 44) rfl rfl rfl (fun h41 => ?_) (fun h41 => absurd (rfl) h41)
    refine Rn.iconst (v := 0) (pc' := 61) rfl (by decide) rfl ?_
    refine Rn.step (pc' := 62) rfl rfl ?_
    refine Rn.step (pc' := 63) rfl rfl ?_
    refine Rn.ifc_ne (pc1 := 68) (pc2 := 66) rfl rfl rfl (fun h63 => absurd h63 (fun z => z rfl)) (fun h63 => ?_)
    refine Rn.iconst (v := 0) (pc' := 67) rfl (by decide) rfl ?_
    exact Rn.iret rfl (rfl) (gXC.bad ((((((cFL.rfl F I).f1 f2).ii _ (by omega)).f1 f3).ii _ (by omega)).f1 f1) e1)
  obtain ⟨rfl, f4, rfl, t4⟩ := (hc_.2 kA).2 nA
  have t4k := nx_p kA
  rw [show gNu T n 0 23 ((60 + 4 * Wn) + 2) ((nxE T n (nxE T n p)), upd (upd q (60 + 4 * Wn) (vlE T n p)) ((60 + 4 * Wn) + 1) (vlE T n (nxE T n p))) = .inr (nxE T n (nxE T n (nxE T n p)), upd (((nxE T n (nxE T n p)), upd (upd q (60 + 4 * Wn) (vlE T n p)) ((60 + 4 * Wn) + 1) (vlE T n (nxE T n p)))).2 ((60 + 4 * Wn) + 2) (vlE T n (nxE T n (nxE T n p)))) from (if_pos kA).trans (if_pos nA)]
  clear hc_
  have kA3 := kA
  have nA3 := nA
  show Rn _ _ _ _ _ _ (gXC m0 F I L R H T n (gBx (gNu T n 1 50 ((60 + 4 * Wn) + 3) ((nxE T n (nxE T n (nxE T n p))), upd (upd (upd q (60 + 4 * Wn) (vlE T n p)) ((60 + 4 * Wn) + 1) (vlE T n (nxE T n p))) ((60 + 4 * Wn) + 2) (vlE T n (nxE T n (nxE T n p))))) (gKo 4)))
  refine Rn.ifc_eq (pc1 := 60) (pc2 := 44) rfl rfl rfl (fun h41 => absurd h41 (fun z => absurd z (by decide))) (fun h41 => ?_)
  refine Rn.step (pc' := 45) rfl rfl ?_
  refine Rn.step (pc' := 46) rfl rfl ?_
  refine Rn.iconst (v := 3) (pc' := 47) rfl (by decide) rfl ?_
  refine Rn.iconst (v := 1) (pc' := 48) rfl (by decide) rfl ?_
  refine Rn.iconst (v := 50) (pc' := 50) rfl (by decide) rfl ?_
  refine Rn.callV (pc' := 53) rfl (by decide) (by omega) rfl rfl rfl (c_L_num (to := 3) (by omega) hI t4 t4k h4 (by omega)) (fun r_ m_ hc_ => ?_)
  by_cases kA : kdE T n (nxE T n (nxE T n (nxE T n p))) = 2
  rotate_left
  · obtain ⟨rfl, f1, rfl, e1⟩ := hc_.1 kA
    rw [show gNu T n 1 50 ((60 + 4 * Wn) + 3) ((nxE T n (nxE T n (nxE T n p))), upd (upd (upd q (60 + 4 * Wn) (vlE T n p)) ((60 + 4 * Wn) + 1) (vlE T n (nxE T n p))) ((60 + 4 * Wn) + 2) (vlE T n (nxE T n (nxE T n p)))) = .inl (1 + 8 * (nxE T n (nxE T n (nxE T n p))) + 0) from if_neg kA]
    refine Rn.ifc_eq (pc1 := 60) (pc2 := 56) rfl rfl rfl (fun h53 => ?_) (fun h53 => absurd (rfl) h53)
    refine Rn.iconst (v := 0) (pc' := 61) rfl (by decide) rfl ?_
    refine Rn.step (pc' := 62) rfl rfl ?_
    refine Rn.step (pc' := 63) rfl rfl ?_
    refine Rn.ifc_ne (pc1 := 68) (pc2 := 66) rfl rfl rfl (fun h63 => absurd h63 (fun z => z rfl)) (fun h63 => ?_)
    refine Rn.iconst (v := 0) (pc' := 67) rfl (by decide) rfl ?_
    exact Rn.iret rfl (rfl) (gXC.bad ((((((((cFL.rfl F I).f1 f2).ii _ (by omega)).f1 f3).ii _ (by omega)).f1 f4).ii _ (by omega)).f1 f1) e1)
  by_cases nA : nbE T n (nxE T n (nxE T n (nxE T n p))) 1 50
  rotate_left
  · obtain ⟨rfl, f1, rfl, e1⟩ := (hc_.2 kA).1 nA
    rw [show gNu T n 1 50 ((60 + 4 * Wn) + 3) ((nxE T n (nxE T n (nxE T n p))), upd (upd (upd q (60 + 4 * Wn) (vlE T n p)) ((60 + 4 * Wn) + 1) (vlE T n (nxE T n p))) ((60 + 4 * Wn) + 2) (vlE T n (nxE T n (nxE T n p)))) = .inl (1 + 8 * (nxE T n (nxE T n (nxE T n p))) + 1) from (if_pos kA).trans (if_neg nA)]
    refine Rn.ifc_eq (pc1 := 60) (pc2 := 56) rfl rfl rfl (fun h53 => ?_) (fun h53 => absurd (rfl) h53)
    refine Rn.iconst (v := 0) (pc' := 61) rfl (by decide) rfl ?_
    refine Rn.step (pc' := 62) rfl rfl ?_
    refine Rn.step (pc' := 63) rfl rfl ?_
    refine Rn.ifc_ne (pc1 := 68) (pc2 := 66) rfl rfl rfl (fun h63 => absurd h63 (fun z => z rfl)) (fun h63 => ?_)
    refine Rn.iconst (v := 0) (pc' := 67) rfl (by decide) rfl ?_
    exact Rn.iret rfl (rfl) (gXC.bad ((((((((cFL.rfl F I).f1 f2).ii _ (by omega)).f1 f3).ii _ (by omega)).f1 f4).ii _ (by omega)).f1 f1) e1)
  obtain ⟨rfl, f5, rfl, t5⟩ := (hc_.2 kA).2 nA
  have t5k := nx_p kA
  rw [show gNu T n 1 50 ((60 + 4 * Wn) + 3) ((nxE T n (nxE T n (nxE T n p))), upd (upd (upd q (60 + 4 * Wn) (vlE T n p)) ((60 + 4 * Wn) + 1) (vlE T n (nxE T n p))) ((60 + 4 * Wn) + 2) (vlE T n (nxE T n (nxE T n p)))) = .inr (nxE T n (nxE T n (nxE T n (nxE T n p))), upd (((nxE T n (nxE T n (nxE T n p))), upd (upd (upd q (60 + 4 * Wn) (vlE T n p)) ((60 + 4 * Wn) + 1) (vlE T n (nxE T n p))) ((60 + 4 * Wn) + 2) (vlE T n (nxE T n (nxE T n p))))).2 ((60 + 4 * Wn) + 3) (vlE T n (nxE T n (nxE T n (nxE T n p))))) from (if_pos kA).trans (if_pos nA)]
  clear hc_
  refine Rn.ifc_eq (pc1 := 60) (pc2 := 56) rfl rfl rfl (fun h53 => absurd h53 (fun z => absurd z (by decide))) (fun h53 => ?_)
  refine Rn.iconst (v := 1) (pc' := 57) rfl (by decide) rfl ?_
  refine Rn.step (pc' := 61) rfl rfl ?_
  refine Rn.step (pc' := 62) rfl rfl ?_
  refine Rn.step (pc' := 63) rfl rfl ?_
  refine Rn.ifc_ne (pc1 := 68) (pc2 := 66) rfl rfl rfl (fun h63 => ?_) (fun h63 => absurd h63 (fun z => absurd z (by decide)))
  refine Rn.step (pc' := 69) rfl rfl ?_
  refine Rn.getf (pc' := 72) rfl rfl rfl rfl rfl ?_
  refine Rn.iconst (v := 0) (pc' := 73) rfl (by decide) rfl ?_
  refine Rn.step (pc' := 74) rfl rfl ?_
  refine Rn.getf (pc' := 77) rfl rfl rfl rfl rfl ?_
  refine Rn.iconst (v := 4) (pc' := 78) rfl (by decide) rfl ?_
  refine Rn.step (pc' := 79) rfl rfl ?_
  refine Rn.getf (pc' := 82) rfl rfl rfl rfl rfl ?_
  refine Rn.imul (pc' := 83) rfl rfl ?_
  refine Rn.iconst (v := 4) (pc' := 84) rfl (by decide) rfl ?_
  rw [show va_up (va_up (va_up (va_up F 1 f2) 1 f3) 1 f4) 1 f5 43 12 = nI Wn from hB]
  refine Rn.ccopy (a0 := 49) (a := 48) (sp := 0) (dp := 4 * Wn) (n := 4) (pc' := 87) rfl (by omega) rfl rfl rfl (by simp only [nI_lit, pk_mul]) rfl (by omega) (Nat.zero_le 8) rfl ?_
  refine Rn.step (pc' := 88) rfl rfl ?_
  refine Rn.step (pc' := 89) rfl rfl ?_
  refine Rn.getf (pc' := 92) rfl rfl rfl rfl rfl ?_
  refine Rn.iconst (v := 1) (pc' := 93) rfl (by decide) rfl ?_
  refine Rn.iadd (pc' := 94) rfl rfl ?_
  rw [show va_up (va_up (va_up (va_up F 1 f2) 1 f3) 1 f4) 1 f5 43 12 + 1 = nI (Wn + 1) by show F 43 12 + 1 = _; rw [hB, nI_lit, nI_add]]
  refine Rn.cput (pc' := 97) rfl rfl rfl rfl rfl (by decide) rfl ?_
  refine Rn.iconst (v := 1) (pc' := 98) rfl (by decide) rfl ?_
  refine Rn.iret rfl rfl (⟨_, _, rfl, ((((((((((cFL.rfl F I).f1 f2).ii _ (by omega)).f1 f3).ii _ (by omega)).f1 f4).ii _ (by omega)).f1 f5).ii _ (by omega)).ii _ (by omega)).f43 _, rfl, t5, ?_⟩)
  have hv2 := gL5_v (T := T) (n := n) (p := p) hv hB6 (hX kA1 nA1 kA2 nA2 kA3 nA3 kA nA)
  have hN : ∀ j, j ≠ 4 → (j < 60 + 4 * Wn ∨ 64 + 4 * Wn ≤ j) → (upd (upd (upd (upd (upd q (60 + 4 * Wn) (vlE T n p)) ((60 + 4 * Wn) + 1) (vlE T n (nxE T n p))) ((60 + 4 * Wn) + 2) (vlE T n (nxE T n (nxE T n p)))) ((60 + 4 * Wn) + 3) (vlE T n (nxE T n (nxE T n (nxE T n p))))) 4 ((upd (upd (upd (upd q (60 + 4 * Wn) (vlE T n p)) ((60 + 4 * Wn) + 1) (vlE T n (nxE T n p))) ((60 + 4 * Wn) + 2) (vlE T n (nxE T n (nxE T n p)))) ((60 + 4 * Wn) + 3) (vlE T n (nxE T n (nxE T n (nxE T n p))))) 4 + 1)) j = q j := fun j h1 h2 => by rw [upN _ _ (by omega), upN _ _ (by omega), upN _ _ (by omega), upN _ _ (by omega), upN _ _ (by omega)]
  have g0 : (upd (upd (upd (upd (upd q (60 + 4 * Wn) (vlE T n p)) ((60 + 4 * Wn) + 1) (vlE T n (nxE T n p))) ((60 + 4 * Wn) + 2) (vlE T n (nxE T n (nxE T n p)))) ((60 + 4 * Wn) + 3) (vlE T n (nxE T n (nxE T n (nxE T n p))))) 4 ((upd (upd (upd (upd q (60 + 4 * Wn) (vlE T n p)) ((60 + 4 * Wn) + 1) (vlE T n (nxE T n p))) ((60 + 4 * Wn) + 2) (vlE T n (nxE T n (nxE T n p)))) ((60 + 4 * Wn) + 3) (vlE T n (nxE T n (nxE T n (nxE T n p))))) 4 + 1)) (60 + 4 * Wn) = vlE T n p := by rw [upN _ _ (by omega), upN _ _ (by omega), upN _ _ (by omega), upN _ _ (by omega), upS]
  have g1 : (upd (upd (upd (upd (upd q (60 + 4 * Wn) (vlE T n p)) ((60 + 4 * Wn) + 1) (vlE T n (nxE T n p))) ((60 + 4 * Wn) + 2) (vlE T n (nxE T n (nxE T n p)))) ((60 + 4 * Wn) + 3) (vlE T n (nxE T n (nxE T n (nxE T n p))))) 4 ((upd (upd (upd (upd q (60 + 4 * Wn) (vlE T n p)) ((60 + 4 * Wn) + 1) (vlE T n (nxE T n p))) ((60 + 4 * Wn) + 2) (vlE T n (nxE T n (nxE T n p)))) ((60 + 4 * Wn) + 3) (vlE T n (nxE T n (nxE T n (nxE T n p))))) 4 + 1)) (60 + 4 * Wn + 1) = vlE T n (nxE T n p) := by rw [upN _ _ (by omega), upN _ _ (by omega), upN _ _ (by omega), upS]
  have g2 : (upd (upd (upd (upd (upd q (60 + 4 * Wn) (vlE T n p)) ((60 + 4 * Wn) + 1) (vlE T n (nxE T n p))) ((60 + 4 * Wn) + 2) (vlE T n (nxE T n (nxE T n p)))) ((60 + 4 * Wn) + 3) (vlE T n (nxE T n (nxE T n (nxE T n p))))) 4 ((upd (upd (upd (upd q (60 + 4 * Wn) (vlE T n p)) ((60 + 4 * Wn) + 1) (vlE T n (nxE T n p))) ((60 + 4 * Wn) + 2) (vlE T n (nxE T n (nxE T n p)))) ((60 + 4 * Wn) + 3) (vlE T n (nxE T n (nxE T n (nxE T n p))))) 4 + 1)) (60 + 4 * Wn + 2) = vlE T n (nxE T n (nxE T n p)) := by rw [upN _ _ (by omega), upN _ _ (by omega), upS]
  have g3 : (upd (upd (upd (upd (upd q (60 + 4 * Wn) (vlE T n p)) ((60 + 4 * Wn) + 1) (vlE T n (nxE T n p))) ((60 + 4 * Wn) + 2) (vlE T n (nxE T n (nxE T n p)))) ((60 + 4 * Wn) + 3) (vlE T n (nxE T n (nxE T n (nxE T n p))))) 4 ((upd (upd (upd (upd q (60 + 4 * Wn) (vlE T n p)) ((60 + 4 * Wn) + 1) (vlE T n (nxE T n p))) ((60 + 4 * Wn) + 2) (vlE T n (nxE T n (nxE T n p)))) ((60 + 4 * Wn) + 3) (vlE T n (nxE T n (nxE T n (nxE T n p))))) 4 + 1)) (60 + 4 * Wn + 3) = vlE T n (nxE T n (nxE T n (nxE T n p))) := by rw [upN _ _ (by omega), upS]
  show LQ (upd (upd (upd (upd (upd q (60 + 4 * Wn) (vlE T n p)) ((60 + 4 * Wn) + 1) (vlE T n (nxE T n p))) ((60 + 4 * Wn) + 2) (vlE T n (nxE T n (nxE T n p)))) ((60 + 4 * Wn) + 3) (vlE T n (nxE T n (nxE T n (nxE T n p))))) 4 ((upd (upd (upd (upd q (60 + 4 * Wn) (vlE T n p)) ((60 + 4 * Wn) + 1) (vlE T n (nxE T n p))) ((60 + 4 * Wn) + 2) (vlE T n (nxE T n (nxE T n p)))) ((60 + 4 * Wn) + 3) (vlE T n (nxE T n (nxE T n (nxE T n p))))) 4 + 1)) _ _
  dsimp only at hv2
  generalize upd (upd (upd (upd (upd q (60 + 4 * Wn) (vlE T n p)) ((60 + 4 * Wn) + 1) (vlE T n (nxE T n p))) ((60 + 4 * Wn) + 2) (vlE T n (nxE T n (nxE T n p)))) ((60 + 4 * Wn) + 3) (vlE T n (nxE T n (nxE T n (nxE T n p))))) 4 ((upd (upd (upd (upd q (60 + 4 * Wn) (vlE T n p)) ((60 + 4 * Wn) + 1) (vlE T n (nxE T n p))) ((60 + 4 * Wn) + 2) (vlE T n (nxE T n (nxE T n p)))) ((60 + 4 * Wn) + 3) (vlE T n (nxE T n (nxE T n (nxE T n p))))) 4 + 1) = q' at hv2 hN g0 g1 g2 g3 ⊢
  unfold LQ
  rw [hv2.1.c2, hv2.1.c3, hv2.1.c4]
  obtain ⟨l1, l2, l3, l4, l5, l6, l7, l8, l9, l10, l11, l12⟩ := hq
  have b6 := hv.2.1.2
  have b4 := hv.2.2.1.2
  refine ⟨l1.trans (hN _ (by omega) (by omega)).symm, l2.trans (hN _ (by omega) (by omega)).symm, l3.trans (hN _ (by omega) (by omega)).symm, l4.trans (hN _ (by omega) (by omega)).symm, l5.trans (hN _ (by omega) (by omega)).symm, l6.trans (hN _ (by omega) (by omega)).symm, hv2.1.2.2.2.1.1.symm, fun y hy => (l8 y hy).trans (hN _ (by omega) (by omega)).symm, fun y hy => (l9 y hy).trans (hN _ (by omega) (by omega)).symm, fun y hy => (l10 y hy).trans (hN _ (by omega) (by omega)).symm, fun y hy => (l11 y hy).trans (hN _ (by omega) (by omega)).symm, fun y hy => ?_⟩
  show va_cpy _ (I 48) 0 (4 * Wn) 4 y = _
  by_cases e : y < 4 * Wn
  · rw [pk_cpy_out (Or.inl e), hN _ (by omega) (by omega)]
    exact l12 y (by omega)
  · rw [pk_cpy_in (by omega) (by omega), Nat.zero_add]
    obtain e | e | e | e : y = 4 * Wn ∨ y = 4 * Wn + 1 ∨ y = 4 * Wn + 2 ∨ y = 4 * Wn + 3 := by omega
    · subst e
      rw [Nat.sub_self, g0]
      rfl
    · subst e
      rw [show 4 * Wn + 1 - 4 * Wn = 1 by omega, show 60 + (4 * Wn + 1) = 60 + 4 * Wn + 1 by omega, g1]
      rfl
    · subst e
      rw [show 4 * Wn + 2 - 4 * Wn = 2 by omega, show 60 + (4 * Wn + 2) = 60 + 4 * Wn + 2 by omega, g2]
      rfl
    · subst e
      rw [show 4 * Wn + 3 - 4 * Wn = 3 by omega, show 60 + (4 * Wn + 3) = 60 + 4 * Wn + 3 by omega, g3]
      rfl
end V3
end NF2
