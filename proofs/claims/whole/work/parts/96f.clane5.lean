/-! THE CLASS: lane(). -/
section NI2
variable {m0 : xM} {F I : Nat → Nat → Int32} {L : Nat → Nat → Int64} {R : Nat → Nat → Option Nat} {H : Value} {s w : Nat → Int32} {o : Nat} {gg : Prop}
section V6
variable {T : Nat → Int32} {n p d : Nat} {q : Nat → Int32}
theorem c_L_read (hd : 9 ≤ d) (hS : STR0 m0) (hn : F 1 1 = nI n) (h4 : n ≤ 400) (hT : ∀ i, -128 ≤ I 2 i ∧ I 2 i ≤ 127) (hq : iniQ q) : Cl d j_Lane_read [.ref 43, .ref 1] (CC m0 F I L R H) (gXD m0 F I L R H (gLd (I 2) n 41 0 (skE (I 2) n 0, q))) := by
  replace hd : 8 ≤ d := by omega
  show Rn d j_Lane_read 0 _ _ _ _
  refine Rn.step (pc' := 1) rfl rfl ?_
  refine Rn.callV (pc' := 4) rfl (by decide) (by omega) rfl rfl rfl (c_L_clear (by omega)) (fun r_ m_ hc_ => ?_)
  obtain ⟨rfl, F1, rfl, u1, u6, u7, u8, u9, u10, u11, u12⟩ := hc_
  refine Rn.step (pc' := 5) rfl rfl ?_
  refine Rn.callV (pc' := 8) rfl (by decide) (by omega) rfl rfl rfl (c_T_open (n := n) (by omega) (by rw [u1 1 (by decide)]; exact hn) h4) (fun r_ m_ hc_ => ?_)
  obtain ⟨rfl, f1, rfl, e3, _⟩ := hc_
  refine Rn.iconst (v := 0) (pc' := 9) rfl (by decide) rfl ?_
  refine Rn.step (pc' := 10) rfl rfl ?_
  have hx0 := hq.lv
  have hc2 : cN (q 2) = 0 := hx0.c2
  have hc3 : cN (q 3) = 0 := hx0.c3
  have hc4 : cN (q 4) = 0 := hx0.c4
  have hLQ : LQ q (va_up F1 1 f1) (va_up I 44 (filN (I 44) 0 10)) := by
    unfold LQ
    rw [hc2, hc3, hc4]
    exact ⟨u6.trans (hq.1 0 (by decide)).symm, u7.trans (hq.1 1 (by decide)).symm, u8.trans hq.2.1.symm, u9.trans hq.2.2.1.symm, u10.trans (hq.1 2 (by decide)).symm, u11.trans (hq.1 3 (by decide)).symm, u12.trans (hq.1 4 (by decide)).symm, fun x hx => (filN_i hx).trans (hq.2.2.2 x hx).symm, fun x hx => absurd hx (Nat.not_lt_zero _), fun x hx => absurd hx (Nat.not_lt_zero _), fun x hx => absurd hx (Nat.not_lt_zero _), fun x hx => absurd hx (Nat.not_lt_zero _)⟩
  have c1 : cFL F I (va_up F1 1 f1) (va_up I 44 (filN (I 44) 0 10)) := ⟨fun k a b => (up_ne _ _ a).trans (u1 k b), fun k hk => up_ne _ _ (by omega)⟩
  exact Rn.conseq (l_L_read hd hS 41 0 _ _ _ q _ _ _ _ _ hT rfl e3 (skE_le (Nat.zero_le _)) hx0 hLQ (by omega) (Or.inl ⟨rfl, hq.1 0 (by decide)⟩)) (fun r_ m_ hg => hg.mono c1)
/-- what lane() answers and leaves -/
def gLa (m0 : xM) (F I : Nat → Nat → Int32) (L : Nat → Nat → Int64) (R : Nat → Nat → Option Nat) (H : Value) (o : Option Value) (m2 : xM) : gX → Prop
  | .inl e => o = some (.int (-2 - nI e)) ∧ ∃ F1 I1, m2 = CC m0 F1 I1 L R H ∧ cFL F I F1 I1 ∧ F1 1 1 = 0
  | .inr z => o = some (.int (z.2 2)) ∧ ∃ F1 I1, m2 = CC m0 F1 I1 L R H ∧ (∀ k, k ≠ 1 → k ≠ 43 → k ≠ 17 → k ≠ 10 → k ≠ 12 → F1 k = F k) ∧ (∀ k, k ≠ 9 → (k < 18 ∨ 22 < k) → (k < 44 ∨ 49 < k) → I1 k = I k) ∧ F1 1 1 = 0 ∧ F1 12 = upd (F 12) 1 0 ∧ F1 10 = upd (F 10) 2 0 ∧ LG 10 (cN (z.2 2)) (cN (z.2 3)) (cN (z.2 4)) (flQ z.2) (F1 17) (I1 18) (I1 19) (I1 20) (I1 21) (I1 22) ∧ I1 9 = bgW (I1 19) (cN (z.2 2)) (F1 17 9) (I 9)
set_option maxHeartbeats 4000000 in
theorem c_O_lane (hd : 10 ≤ d) (hS : STR0 m0) (hn : F 1 1 = nI n) (h4 : n ≤ 400) (hT : ∀ i, -128 ≤ I 2 i ∧ I 2 i ≤ 127) (hq : iniQ q) : Cl d j_O_lane [.ref 0] (CC m0 F I L R H) (fun o m2 => gLa m0 F I L R H o m2 (gLd (I 2) n 41 0 (skE (I 2) n 0, q))) := by
  show Rn d j_O_lane 0 _ _ _ _
  refine Rn.step (pc' := 1) rfl rfl ?_
  refine Rn.getf (pc' := 4) rfl rfl rfl rfl rfl ?_
  refine Rn.step (pc' := 5) rfl rfl ?_
  refine Rn.getf (pc' := 8) rfl rfl rfl rfl rfl ?_
  refine Rn.callV (pc' := 11) rfl (by decide) (by omega) rfl rfl rfl (c_L_read (q := q) (by omega) hS hn h4 hT hq) (fun r_ m_ hc_ => ?_)
  obtain ⟨F2, I2, rfl, hF2, hg⟩ := hc_
  cases hX : gLd (I 2) n 41 0 (skE (I 2) n 0, q) with
  | inl e =>
    rw [hX] at hg
    obtain ⟨rfl, g1⟩ := hg
    refine Rn.step (pc' := 12) rfl rfl ?_
    refine Rn.step (pc' := 13) rfl rfl ?_
    refine Rn.getf (pc' := 16) rfl rfl rfl rfl rfl ?_
    refine Rn.iconst (v := 0) (pc' := 17) rfl (by decide) rfl ?_
    refine Rn.cput (pc' := 20) rfl rfl rfl rfl rfl (by decide) rfl ?_
    refine Rn.step (pc' := 21) rfl rfl ?_
    refine Rn.ifc_ne (pc1 := 35) (pc2 := 24) rfl rfl rfl (fun h21 => absurd h21 (fun z => z rfl)) (fun h21 => ?_)
    refine Rn.iconst (v := (-2)) (pc' := 26) rfl (by decide) rfl ?_
    refine Rn.step (pc' := 27) rfl rfl ?_
    refine Rn.getf (pc' := 30) rfl rfl rfl rfl rfl ?_
    refine Rn.getf (pc' := 33) rfl rfl rfl rfl rfl ?_
    rw [show va_up F2 1 (upd (F2 1) 1 0) 1 2 = nI e from g1]
    refine Rn.isub (pc' := 34) rfl rfl ?_
    exact Rn.iret rfl (rfl) (⟨rfl, _, _, rfl, hF2.f1 _, rfl⟩)
  | inr z =>
    rw [hX] at hg
    obtain ⟨rfl, hq2⟩ := hg
    obtain ⟨P', B', E', W', hv, hp2⟩ := gLd_v 41 0 _ z _ _ _ _ hq.lv hX
    refine Rn.step (pc' := 12) rfl rfl ?_
    refine Rn.step (pc' := 13) rfl rfl ?_
    refine Rn.getf (pc' := 16) rfl rfl rfl rfl rfl ?_
    refine Rn.iconst (v := 0) (pc' := 17) rfl (by decide) rfl ?_
    refine Rn.cput (pc' := 20) rfl rfl rfl rfl rfl (by decide) rfl ?_
    refine Rn.step (pc' := 21) rfl rfl ?_
    refine Rn.ifc_ne (pc1 := 35) (pc2 := 24) rfl rfl rfl (fun h21 => ?_) (fun h21 => absurd h21 (fun z => absurd z (by decide)))
    refine Rn.step (pc' := 36) rfl rfl ?_
    refine Rn.getf (pc' := 39) rfl rfl rfl rfl rfl ?_
    refine Rn.step (pc' := 40) rfl rfl ?_
    refine Rn.getf (pc' := 43) rfl rfl rfl rfl rfl ?_
    refine Rn.callV (pc' := 46) rfl (by decide) (by omega) rfl rfl rfl (c_L_cpC (by omega)) (fun r_ m_ hc_ => ?_)
    obtain ⟨rfl, F3, I3, rfl, u1, u2, ⟨v1, v2, v3, v4, v5⟩, w6, w7, w8, w9, w10, w11, w12⟩ := hc_
    have hq3 : LG 10 (cN (z.2 2)) (cN (z.2 3)) (cN (z.2 4)) (flQ z.2) (F3 17) (I3 18) (I3 19) (I3 20) (I3 21) (I3 22) := by
      unfold LQ at hq2
      rw [flQ_n (by decide) (by decide), flQ_n (by decide) (by decide), flQ_n (by decide) (by decide)] at hq2
      obtain ⟨l1, l2, l3, l4, l5, l6, l7, l8, l9, l10, l11, l12⟩ := hq2
      have b2 := hv.2.1.2
      have b3 := hv.2.2.1.2
      have b4 := hv.2.2.2.1.2
      rw [hv.c2] at l9 l10
      rw [hv.c3] at l11
      rw [hv.c4] at l12
      rw [hv.c2, hv.c3, hv.c4]
      exact ⟨w6.trans l1, w7.trans l2, w8.trans l3, w9.trans l4, w10.trans l5, w11.trans l6, w12.trans l7, fun x hx => (v1 x hx).trans (l8 x hx), fun x hx => (v2 x (by omega)).trans (l9 x hx), fun x hx => (v3 x (by omega)).trans (l10 x hx), fun x hx => (v4 x (by omega)).trans (l11 x hx), fun x hx => (v5 x (by omega)).trans (l12 x hx)⟩
    have e10 : F3 17 10 = nI B' := by rw [hq3.2.2.2.2.1, flQ_n (by decide) (by decide)]; exact hv.2.1.1
    have e9 : I3 9 = I 9 := (u2 9 (by omega)).trans (hF2.2 9 (by omega))
    refine Rn.step (pc' := 47) rfl rfl ?_
    refine Rn.getf (pc' := 50) rfl rfl rfl rfl rfl ?_
    refine Rn.step (pc' := 51) rfl rfl ?_
    refine Rn.getf (pc' := 54) rfl rfl rfl rfl rfl ?_
    have hbeg := c_W_begin (m0 := m0) (F := F3) (I := I3) (L := L) (R := R) (H := H) (d := d - 1) (o := 8) (w := I3 9) (by omega) (Or.inl rfl) e10 hv.2.1.2
    rw [show CWm m0 F3 I3 L R H 8 (I3 9) = CC m0 F3 I3 L R H by show CC m0 F3 (va_up I3 9 (I3 9)) L R H = _; rw [up_id]] at hbeg
    refine Rn.vv (pc' := 57) rfl (by decide) (by omega) rfl rfl rfl hbeg ?_
    refine Rn.step (pc' := 58) rfl rfl ?_
    refine Rn.getf (pc' := 61) rfl rfl rfl rfl rfl ?_
    refine Rn.iconst (v := 0) (pc' := 62) rfl (by decide) rfl ?_
    refine Rn.cput (pc' := 65) rfl rfl rfl rfl rfl (by decide) rfl ?_
    refine Rn.step (pc' := 66) rfl rfl ?_
    refine Rn.getf (pc' := 69) rfl rfl rfl rfl rfl ?_
    refine Rn.iconst (v := 0) (pc' := 70) rfl (by decide) rfl ?_
    refine Rn.cput (pc' := 73) rfl rfl rfl rfl rfl (by decide) rfl ?_
    refine Rn.step (pc' := 74) rfl rfl ?_
    refine Rn.getf (pc' := 77) rfl rfl rfl rfl rfl ?_
    refine Rn.getf (pc' := 80) rfl rfl rfl rfl rfl ?_
    refine Rn.iret rfl rfl (⟨?_, _, _, rfl, ?_, ?_, (show F3 1 1 = 0 by rw [u1 1 (by decide)]; rfl), ?_, ?_, ?_, ?_⟩)
    · show some (Value.int (F3 17 10)) = _
      rw [e10, hv.2.1.1]
    · intro k a b c e f
      show va_up (va_up F3 12 _) 10 _ k = _
      rw [up_ne _ _ e, up_ne _ _ f, u1 k c]
      show va_up F2 1 _ k = _
      rw [up_ne _ _ a]
      exact hF2.1 k a b
    · intro k a b c
      show va_up I3 9 _ k = _
      rw [up_ne _ _ a, u2 k b]
      exact hF2.2 k c
    · show upd (F3 12) 1 0 = _
      rw [u1 12 (by decide)]
      show upd (F2 12) 1 0 = _
      rw [hF2.1 12 (by decide) (by decide)]
    · show upd (F3 10) 2 0 = _
      rw [u1 10 (by decide)]
      show upd (F2 10) 2 0 = _
      rw [hF2.1 10 (by decide) (by decide)]
    · exact hq3
    · show bgW (I3 19) B' (F3 17 9) (I3 9) = bgW (I3 19) (cN (z.2 2)) (F3 17 9) (I 9)
      rw [hv.c2, e9]
end V6
end NI2
