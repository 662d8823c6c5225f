/-! THE CLASS: small calls. -/
section CR
variable {m0 : xM} {F I : Nat → Nat → Int32} {L : Nat → Nat → Int64} {R : Nat → Nat → Option Nat} {H : Value} {s w : Nat → Int32} {o : Nat} {gg : Prop}
theorem c_T_after {d P N : Nat} {E : xEv} (hfd : E.fd = 0) (hh : HB P E s F I H m0) (hr : WR gg E.Bn s (I 9)) (hD : DB s 600) (hN : N < 199) (hd : 7 ≤ d) : Cl d j_Trials_after [.ref 24, .ref 14, .ref 8, .int (nI N)] (CC m0 F I L R H) (fun r m2 => r = some (.ref 25) ∧ ∃ z L2 w2, m2 = CWm m0 (fzF F z) I L2 R H 25 w2 ∧ WR gg E.Bn (oS E s N) w2) := by
  have hb6 := hh.wl.b6
  show Rn d j_Trials_after 0 _ _ _ _
  refine Rn.step (pc' := 1) rfl rfl ?_
  refine Rn.getf (pc' := 4) rfl rfl rfl rfl rfl ?_
  refine Rn.step (pc' := 5) rfl rfl ?_
  refine Rn.vv (pc' := 8) rfl (by decide) (by omega) rfl rfl rfl (c_W_copyFrom (o := 25) (o2 := 8) (by omega) (by unfold isW; omega) (by unfold isW; omega)) ?_
  refine Rn.step (pc' := 9) rfl rfl ?_
  refine Rn.step (pc' := 10) rfl rfl ?_
  refine Rn.step (pc' := 11) rfl rfl ?_
  refine Rn.callV (pc' := 14) rfl (by decide) (by omega) rfl rfl rfl (c_T_earn (gg := gg) hfd hh (hD.up (by omega)) hN (by omega) (WR.cpy hr hb6)) (fun r_ m_ hc_ => ?_)
  obtain ⟨rfl, z2, L2, w3, rfl, hr3⟩ := hc_
  refine Rn.step (pc' := 15) rfl rfl ?_
  refine Rn.step (pc' := 16) rfl rfl ?_
  refine Rn.getf (pc' := 19) rfl rfl rfl rfl rfl ?_
  exact Rn.aret rfl (by decide) (⟨rfl, z2, L2, w3, rfl, hr3⟩)
set_option maxHeartbeats 4000000 in
theorem c_O_ahead {d : Nat} {P Bn Fn Wn K rn : Nat} {fo : Int32} {rl : xRl} (hd : 9 ≤ d) (ob : OB P Bn Fn Wn K rn fo rl s F I R m0) (x n y : Int32) : Cl d j_O_ahead [.ref 0, .int x, .int n, .int y] (CC m0 F I L R H) (fun r m2 => (gAh s x n y → r = some (.int (-1)) ∧ QG m0 F I R m2) ∧ (¬ gAh s x n y → r = some (.int (aAh (oS (fo, rl, -1, 0, Bn, Fn, Wn) s n.toNatClampNeg) x.toNatClampNeg y)) ∧ QG m0 F I R m2)) := by
  show Rn d j_O_ahead 0 _ _ _ _
  refine Rn.step (pc' := 1) rfl rfl ?_
  refine Rn.step (pc' := 2) rfl rfl ?_
  refine Rn.vi (pc' := 5) rfl (by decide) (by omega) rfl rfl rfl (c_O_isBrother ob.lr.b x) ?_
  refine Rn.ifp_eq (pc1 := 27) (pc2 := 8) rfl rfl rfl (fun h5 => ?_) (fun h5 => ?_)
  · refine Rn.iconst (v := (-1)) (pc' := 28) rfl (by decide) rfl ?_
    exact Rn.iret rfl (rfl) (⟨fun _ => ⟨rfl, QG.rfl _ _ _ _ _ _⟩, fun hg => absurd (Or.inl h5) hg⟩)
  · refine Rn.step (pc' := 9) rfl rfl ?_
    refine Rn.ifc_lt (pc1 := 27) (pc2 := 12) rfl rfl rfl (fun h9 => ?_) (fun h9 => ?_)
    · refine Rn.iconst (v := (-1)) (pc' := 28) rfl (by decide) rfl ?_
      exact Rn.iret rfl (rfl) (⟨fun _ => ⟨rfl, QG.rfl _ _ _ _ _ _⟩, fun hg => absurd (Or.inr (Or.inl (fun z => absurd h9 (Int32.not_lt.mpr z.1)))) hg⟩)
    · refine Rn.step (pc' := 13) rfl rfl ?_
      refine Rn.iconst (v := 96) (pc' := 15) rfl (by decide) rfl ?_
      refine Rn.icmp_gt (pc1 := 27) (pc2 := 18) rfl rfl rfl (fun h15 => ?_) (fun h15 => ?_)
      · refine Rn.iconst (v := (-1)) (pc' := 28) rfl (by decide) rfl ?_
        exact Rn.iret rfl (rfl) (⟨fun _ => ⟨rfl, QG.rfl _ _ _ _ _ _⟩, fun hg => absurd (Or.inr (Or.inl (fun z => absurd h15 (Int32.not_lt.mpr z.2)))) hg⟩)
      · refine Rn.step (pc' := 19) rfl rfl ?_
        refine Rn.ifc_lt (pc1 := 27) (pc2 := 22) rfl rfl rfl (fun h19 => ?_) (fun h19 => ?_)
        · refine Rn.iconst (v := (-1)) (pc' := 28) rfl (by decide) rfl ?_
          exact Rn.iret rfl (rfl) (⟨fun _ => ⟨rfl, QG.rfl _ _ _ _ _ _⟩, fun hg => absurd (Or.inr (Or.inr ((fun z => absurd h19 (Int32.not_lt.mpr z.1))))) hg⟩)
        · refine Rn.step (pc' := 23) rfl rfl ?_
          refine Rn.iconst (v := 2) (pc' := 24) rfl (by decide) rfl ?_
          refine Rn.icmp_le (pc1 := 29) (pc2 := 27) rfl rfl rfl (fun h24 => ?_) (fun h24 => ?_)
          · obtain ⟨h0, hl, hw, b, hb, rfl⟩ := ob.li.bro h5
            have hb6 := ob.li.b6
            have eb : (nI b).toNatClampNeg = b := nI_clamp (by omega)
            obtain ⟨N, hN, rfl⟩ := xN (n := 96) (by decide) (by decide) (⟨Int32.not_lt.mp h9, Int32.not_lt.mp h15⟩)
            have eN : (nI N).toNatClampNeg = N := nI_clamp (by omega)
            refine Rn.step (pc' := 30) rfl rfl ?_
            refine Rn.getf (pc' := 33) rfl rfl rfl rfl rfl ?_
            refine Rn.step (pc' := 34) rfl rfl ?_
            refine Rn.callV (pc' := 37) rfl (by decide) (by omega) rfl rfl rfl (c_O_ready ob) (fun r_ m_ hc_ => ?_)
            obtain ⟨rfl, H1, rfl, hH⟩ := hc_
            refine Rn.step (pc' := 38) rfl rfl ?_
            refine Rn.getf (pc' := 41) rfl rfl rfl rfl rfl ?_
            refine Rn.step (pc' := 42) rfl rfl ?_
            refine Rn.callV (pc' := 45) rfl (by decide) (by omega) rfl rfl rfl (c_T_after (E := (fo, rl, -1, 0, Bn, Fn, Wn)) (gg := True) rfl (ob.hb h0 hH) ob.wr (ob.db.up (by omega)) (N := N) (by omega) (by omega)) (fun r_ m_ hc_ => ?_)
            obtain ⟨rfl, z2, L2, w3, rfl, hr3⟩ := hc_
            refine Rn.step (pc' := 47) rfl rfl ?_
            refine Rn.step (pc' := 48) rfl rfl ?_
            obtain ⟨Y, hY, hYe⟩ := xN (n := 2) (by decide) (by decide) (⟨Int32.not_lt.mp h19, h24⟩)
            have ho : isW 25 := by unfold isW; omega
            have hY3 : Y = 0 ∨ Y = 1 ∨ Y = 2 := by omega
            rcases hY3 with rfl | rfl | rfl
            · subst hYe
              refine Rn.step (pc' := 76) rfl rfl ?_
              refine Rn.step (pc' := 78) rfl rfl ?_
              refine Rn.cgw (pc' := 81) rfl ho rfl ?_
              refine Rn.iconst (v := 0) (pc' := 82) rfl (by decide) rfl ?_
              refine Rn.step (pc' := 83) rfl rfl ?_
              refine Rn.iadd (pc' := 84) rfl rfl ?_
              refine Rn.cwld (k := b) (pc' := 85) rfl ho (by simp only [nI_lit, nI_add, pk_mul, Nat.zero_add]) (by omega) (hr3.pl b hb) (by decide) rfl ?_
              exact Rn.iret rfl (rfl) (⟨fun hg => absurd hg (fun z => z.elim (fun c => c h5) (fun z => z.elim (fun c => c ⟨Int32.not_lt.mp h9, Int32.not_lt.mp h15⟩) (fun c => c ⟨Int32.not_lt.mp h19, h24⟩))), fun _ => ⟨by
                  rw [eb, eN]
                  unfold aAh
                  rw [if_pos (show nI 0 = (0 : Int32) from rfl)]
                  try rfl, ⟨_, _, L2, H1, rfl, fun k hk => (fzF_n _ _ (by omega)).trans (rdF_q F k hk), fun k hk => up_ne I w3 (by omega)⟩⟩⟩)
            · subst hYe
              refine Rn.step (pc' := 86) rfl rfl ?_
              refine Rn.step (pc' := 88) rfl rfl ?_
              refine Rn.cgw (pc' := 91) rfl ho rfl ?_
              refine Rn.iconst (v := 6) (pc' := 93) rfl (by decide) rfl ?_
              refine Rn.step (pc' := 94) rfl rfl ?_
              refine Rn.iadd (pc' := 95) rfl rfl ?_
              refine Rn.cwld (k := 6 + b) (pc' := 96) rfl ho (by simp only [nI_lit, nI_add, pk_mul, Nat.zero_add]) (by omega) (hr3.ch b hb) (by decide) rfl ?_
              exact Rn.iret rfl (rfl) (⟨fun hg => absurd hg (fun z => z.elim (fun c => c h5) (fun z => z.elim (fun c => c ⟨Int32.not_lt.mp h9, Int32.not_lt.mp h15⟩) (fun c => c ⟨Int32.not_lt.mp h19, h24⟩))), fun _ => ⟨by
                  rw [eb, eN]
                  unfold aAh
                  rw [if_neg (show ¬ nI 1 = (0 : Int32) by decide), if_pos (show nI 1 = (1 : Int32) from rfl)]
                  try rfl, ⟨_, _, L2, H1, rfl, fun k hk => (fzF_n _ _ (by omega)).trans (rdF_q F k hk), fun k hk => up_ne I w3 (by omega)⟩⟩⟩)
            · subst hYe
              refine Rn.step (pc' := 97) rfl rfl ?_
              refine Rn.step (pc' := 99) rfl rfl ?_
              refine Rn.cgw (pc' := 102) rfl ho rfl ?_
              refine Rn.iconst (v := 18) (pc' := 104) rfl (by decide) rfl ?_
              refine Rn.step (pc' := 105) rfl rfl ?_
              refine Rn.iadd (pc' := 106) rfl rfl ?_
              refine Rn.cwld (k := 18 + b) (pc' := 107) rfl ho (by simp only [nI_lit, nI_add, pk_mul, Nat.zero_add]) (by omega) (hr3.ea b hb) (by decide) rfl ?_
              exact Rn.iret rfl (rfl) (⟨fun hg => absurd hg (fun z => z.elim (fun c => c h5) (fun z => z.elim (fun c => c ⟨Int32.not_lt.mp h9, Int32.not_lt.mp h15⟩) (fun c => c ⟨Int32.not_lt.mp h19, h24⟩))), fun _ => ⟨by
                  rw [eb, eN]
                  unfold aAh
                  rw [if_neg (show ¬ nI 2 = (0 : Int32) by decide), if_neg (show ¬ nI 2 = (1 : Int32) by decide)]
                  try rfl, ⟨_, _, L2, H1, rfl, fun k hk => (fzF_n _ _ (by omega)).trans (rdF_q F k hk), fun k hk => up_ne I w3 (by omega)⟩⟩⟩)
          · refine Rn.iconst (v := (-1)) (pc' := 28) rfl (by decide) rfl ?_
            exact Rn.iret rfl (rfl) (⟨fun _ => ⟨rfl, QG.rfl _ _ _ _ _ _⟩, fun hg => absurd (Or.inr (Or.inr ((fun z => h24 z.2)))) hg⟩)
theorem l_O_win {d P N Mm Dx : Nat} {E : xEv} {p y x5 : Int32} (hh : HB P E s F I H m0) (hD : DB s 600) (hN : N < 199) (hr : WR gg E.Bn s (I 9)) (hd : 8 ≤ d) (hM : Mm ≤ 10) (k : Nat) (hk : k ≤ Mm) {m : xM} (hm : ∃ F1 I1 L1, m = CC m0 F1 I1 L1 R H ∧ tF F F1 ∧ tI I I1 ∧ F1 14 5 = (wnE E p s N (nI Dx).toInt64 k).1 ∧ ∃ Dk, Dk < 2147483648 ∧ F1 24 4 = nI Dk ∧ (wnE E p s N (nI Dx).toInt64 k).2.2 = (nI Dk).toInt64) : Rn d j_O_winters 87 [.ref 0, .int (nI Mm), .int (nI N), .int p, .int y, .int x5, .ref 14, .int (wnE E p s N (nI Dx).toInt64 k).2.1, .int (nI k)] [] m (fun r m2 => r = some (.int (if y = 0 then (wnE E p s N (nI Dx).toInt64 Mm).2.1 else (wnE E p s N (nI Dx).toInt64 Mm).1)) ∧ ∃ F1 I1 L1, m2 = CC m0 F1 I1 L1 R H ∧ tF F F1 ∧ tI I I1) := by
  obtain ⟨F1, I1, L1, rfl, fs1, is1, q5, Dk, hDk, q4, hx⟩ := hm
  refine Rn.step (pc' := 89) rfl rfl ?_
  refine Rn.step (pc' := 90) rfl rfl ?_
  refine Rn.icmp_ge (pc1 := 119) (pc2 := 93) rfl rfl rfl (fun h90 => ?_) (fun h90 => ?_)
  · obtain rfl := nI_up (by omega) hk h90
    refine Rn.step (pc' := 121) rfl rfl ?_
    refine Rn.ifc_ne (pc1 := 129) (pc2 := 124) rfl rfl rfl (fun h121 => ?_) (fun h121 => ?_)
    · refine Rn.step (pc' := 131) rfl rfl ?_
      refine Rn.getf (pc' := 134) rfl rfl rfl rfl rfl ?_
      exact Rn.iret rfl (rfl) (⟨by rw [if_neg h121, ← q5], F1, I1, L1, rfl, fs1, is1⟩)
    · refine Rn.step (pc' := 126) rfl rfl ?_
      refine Rn.step (pc' := 134) rfl rfl ?_
      exact Rn.iret rfl (rfl) (⟨by rw [if_pos h121], F1, I1, L1, rfl, fs1, is1⟩)
  · have hk2 := nI_dn (by omega) hk h90
    refine Rn.step (pc' := 95) rfl rfl ?_
    refine Rn.step (pc' := 96) rfl rfl ?_
    refine Rn.getf (pc' := 99) rfl rfl rfl rfl rfl ?_
    refine Rn.step (pc' := 101) rfl rfl ?_
    refine Rn.step (pc' := 102) rfl rfl ?_
    refine Rn.getf (pc' := 105) rfl rfl rfl rfl rfl ?_
    refine Rn.step (pc' := 106) rfl rfl ?_
    refine Rn.step (pc' := 107) rfl rfl ?_
    refine Rn.callV (pc' := 110) rfl (by decide) (by omega) rfl rfl rfl (c_T_win (gg := gg) (z := (wnE E p s N (nI Dx).toInt64 k).1) (x := (wnE E p s N (nI Dx).toInt64 k).2.2) (p := p) hh hD hN (by omega) hr ⟨F1, I1, L1, rfl, fs1, is1, q5, Dk, hDk, q4, hx⟩) (fun r_ m_ hc_ => ?_)
    obtain ⟨rfl, w2, F2, I2, L2, rfl, fs2, is2, r5, Dk2, hDk2, r4, hx2⟩ := hc_
    refine Rn.iadd (pc' := 111) rfl rfl ?_
    refine Rn.step (pc' := 113) rfl rfl ?_
    refine Rn.step (pc' := 116) rfl rfl ?_
    refine Rn.step (pc' := 87) rfl rfl ?_
    obtain ⟨a1, a2, a3, a4⟩ := wiE_all E p s (wnE E p s N (nI Dx).toInt64 k).1 (wnE E p s N (nI Dx).toInt64 k).2.1 (wnE E p s N (nI Dx).toInt64 k).2.2 N
    have := l_O_win (y := y) (p := p) (Dx := Dx) (x5 := x5) hh hD hN hr hd hM (k + 1) (by omega) (m := CWm m0 F2 I2 L2 R H 25 w2) ⟨F2, _, L2, rfl, fs2, is2.up (Or.inl rfl) w2, by rw [wnE_s]; exact r5.trans a2.symm, Dk2, hDk2, r4, by rw [wnE_s]; exact a4.trans hx2⟩
    rw [wnE_s, a3, ← nI_i1 k] at this
    exact this
termination_by Mm - k
set_option maxHeartbeats 4000000 in
theorem c_O_winters {d : Nat} {P Bn Fn Wn K rn : Nat} {fo : Int32} {rl : xRl} (hd : 10 ≤ d) (ob : OB P Bn Fn Wn K rn fo rl s F I R m0) {Dx : Nat} (hx0 : F 0 14 = nI Dx) (hDx : Dx < 2147483648) (q n p y : Int32) : Cl d j_O_winters [.ref 0, .int q, .int n, .int p, .int y] (CC m0 F I L R H) (fun r m2 => (gWi s q n p y → r = some (.int (-1)) ∧ QG m0 F I R m2) ∧ (¬ gWi s q n p y → r = some (.int (if y = 0 then (wnE (fo, rl, -1, 0, Bn, Fn, Wn) p s n.toNatClampNeg (nI Dx).toInt64 q.toNatClampNeg).2.1 else (wnE (fo, rl, -1, 0, Bn, Fn, Wn) p s n.toNatClampNeg (nI Dx).toInt64 q.toNatClampNeg).1)) ∧ QG m0 F I R m2)) := by
  show Rn d j_O_winters 0 _ _ _ _
  refine Rn.step (pc' := 1) rfl rfl ?_
  refine Rn.iconst (v := 1) (pc' := 2) rfl (by decide) rfl ?_
  refine Rn.icmp_lt (pc1 := 26) (pc2 := 5) rfl rfl rfl (fun h2 => ?_) (fun h2 => ?_)
  · refine Rn.iconst (v := 0) (pc' := 27) rfl (by decide) rfl ?_
    refine Rn.step (pc' := 29) rfl rfl ?_
    refine Rn.step (pc' := 30) rfl rfl ?_
    refine Rn.vi (pc' := 33) rfl (by decide) (by omega) rfl rfl rfl (c_O_hasLane ob.lr.p) ?_
    refine Rn.ifp_eq (pc1 := 62) (pc2 := 36) rfl rfl rfl (fun h33 => ?_) (fun h33 => ?_)
    · refine Rn.iconst (v := (-1)) (pc' := 63) rfl (by decide) rfl ?_
      exact Rn.iret rfl (rfl) (⟨fun _ => ⟨rfl, QG.rfl _ _ _ _ _ _⟩, fun hg => absurd (Or.inl h33) hg⟩)
    · refine Rn.step (pc' := 38) rfl rfl ?_
      refine Rn.ifc_eq (pc1 := 62) (pc2 := 41) rfl rfl rfl (fun h38 => ?_) (fun h38 => absurd (rfl) h38)
      refine Rn.iconst (v := (-1)) (pc' := 63) rfl (by decide) rfl ?_
      exact Rn.iret rfl (rfl) (⟨fun _ => ⟨rfl, QG.rfl _ _ _ _ _ _⟩, fun hg => absurd (Or.inr (Or.inl (fun z => absurd h2 (Int32.not_lt.mpr z.1)))) hg⟩)
  · refine Rn.step (pc' := 6) rfl rfl ?_
    refine Rn.iconst (v := 10) (pc' := 8) rfl (by decide) rfl ?_
    refine Rn.icmp_gt (pc1 := 26) (pc2 := 11) rfl rfl rfl (fun h8 => ?_) (fun h8 => ?_)
    · refine Rn.iconst (v := 0) (pc' := 27) rfl (by decide) rfl ?_
      refine Rn.step (pc' := 29) rfl rfl ?_
      refine Rn.step (pc' := 30) rfl rfl ?_
      refine Rn.vi (pc' := 33) rfl (by decide) (by omega) rfl rfl rfl (c_O_hasLane ob.lr.p) ?_
      refine Rn.ifp_eq (pc1 := 62) (pc2 := 36) rfl rfl rfl (fun h33 => ?_) (fun h33 => ?_)
      · refine Rn.iconst (v := (-1)) (pc' := 63) rfl (by decide) rfl ?_
        exact Rn.iret rfl (rfl) (⟨fun _ => ⟨rfl, QG.rfl _ _ _ _ _ _⟩, fun hg => absurd (Or.inl h33) hg⟩)
      · refine Rn.step (pc' := 38) rfl rfl ?_
        refine Rn.ifc_eq (pc1 := 62) (pc2 := 41) rfl rfl rfl (fun h38 => ?_) (fun h38 => absurd (rfl) h38)
        refine Rn.iconst (v := (-1)) (pc' := 63) rfl (by decide) rfl ?_
        exact Rn.iret rfl (rfl) (⟨fun _ => ⟨rfl, QG.rfl _ _ _ _ _ _⟩, fun hg => absurd (Or.inr (Or.inl (fun z => absurd h8 (Int32.not_lt.mpr z.2)))) hg⟩)
    · refine Rn.step (pc' := 12) rfl rfl ?_
      refine Rn.iconst (v := 1) (pc' := 13) rfl (by decide) rfl ?_
      refine Rn.icmp_lt (pc1 := 26) (pc2 := 16) rfl rfl rfl (fun h13 => ?_) (fun h13 => ?_)
      · refine Rn.iconst (v := 0) (pc' := 27) rfl (by decide) rfl ?_
        refine Rn.step (pc' := 29) rfl rfl ?_
        refine Rn.step (pc' := 30) rfl rfl ?_
        refine Rn.vi (pc' := 33) rfl (by decide) (by omega) rfl rfl rfl (c_O_hasLane ob.lr.p) ?_
        refine Rn.ifp_eq (pc1 := 62) (pc2 := 36) rfl rfl rfl (fun h33 => ?_) (fun h33 => ?_)
        · refine Rn.iconst (v := (-1)) (pc' := 63) rfl (by decide) rfl ?_
          exact Rn.iret rfl (rfl) (⟨fun _ => ⟨rfl, QG.rfl _ _ _ _ _ _⟩, fun hg => absurd (Or.inl h33) hg⟩)
        · refine Rn.step (pc' := 38) rfl rfl ?_
          refine Rn.ifc_eq (pc1 := 62) (pc2 := 41) rfl rfl rfl (fun h38 => ?_) (fun h38 => absurd (rfl) h38)
          refine Rn.iconst (v := (-1)) (pc' := 63) rfl (by decide) rfl ?_
          exact Rn.iret rfl (rfl) (⟨fun _ => ⟨rfl, QG.rfl _ _ _ _ _ _⟩, fun hg => absurd (Or.inr (Or.inr (Or.inl (fun z => absurd h13 (Int32.not_lt.mpr z.1))))) hg⟩)
      · refine Rn.step (pc' := 17) rfl rfl ?_
        refine Rn.iconst (v := 72) (pc' := 19) rfl (by decide) rfl ?_
        refine Rn.icmp_gt (pc1 := 26) (pc2 := 22) rfl rfl rfl (fun h19 => ?_) (fun h19 => ?_)
        · refine Rn.iconst (v := 0) (pc' := 27) rfl (by decide) rfl ?_
          refine Rn.step (pc' := 29) rfl rfl ?_
          refine Rn.step (pc' := 30) rfl rfl ?_
          refine Rn.vi (pc' := 33) rfl (by decide) (by omega) rfl rfl rfl (c_O_hasLane ob.lr.p) ?_
          refine Rn.ifp_eq (pc1 := 62) (pc2 := 36) rfl rfl rfl (fun h33 => ?_) (fun h33 => ?_)
          · refine Rn.iconst (v := (-1)) (pc' := 63) rfl (by decide) rfl ?_
            exact Rn.iret rfl (rfl) (⟨fun _ => ⟨rfl, QG.rfl _ _ _ _ _ _⟩, fun hg => absurd (Or.inl h33) hg⟩)
          · refine Rn.step (pc' := 38) rfl rfl ?_
            refine Rn.ifc_eq (pc1 := 62) (pc2 := 41) rfl rfl rfl (fun h38 => ?_) (fun h38 => absurd (rfl) h38)
            refine Rn.iconst (v := (-1)) (pc' := 63) rfl (by decide) rfl ?_
            exact Rn.iret rfl (rfl) (⟨fun _ => ⟨rfl, QG.rfl _ _ _ _ _ _⟩, fun hg => absurd (Or.inr (Or.inr (Or.inl (fun z => absurd h19 (Int32.not_lt.mpr z.2))))) hg⟩)
        · refine Rn.iconst (v := 1) (pc' := 23) rfl (by decide) rfl ?_
          refine Rn.step (pc' := 27) rfl rfl ?_
          refine Rn.step (pc' := 29) rfl rfl ?_
          refine Rn.step (pc' := 30) rfl rfl ?_
          refine Rn.vi (pc' := 33) rfl (by decide) (by omega) rfl rfl rfl (c_O_hasLane ob.lr.p) ?_
          refine Rn.ifp_eq (pc1 := 62) (pc2 := 36) rfl rfl rfl (fun h33 => ?_) (fun h33 => ?_)
          · refine Rn.iconst (v := (-1)) (pc' := 63) rfl (by decide) rfl ?_
            exact Rn.iret rfl (rfl) (⟨fun _ => ⟨rfl, QG.rfl _ _ _ _ _ _⟩, fun hg => absurd (Or.inl h33) hg⟩)
          · refine Rn.step (pc' := 38) rfl rfl ?_
            refine Rn.ifc_eq (pc1 := 62) (pc2 := 41) rfl rfl rfl (fun h38 => absurd h38 (by decide)) (fun h38 => ?_)
            refine Rn.step (pc' := 42) rfl rfl ?_
            refine Rn.ifc_lt (pc1 := 62) (pc2 := 45) rfl rfl rfl (fun h42 => ?_) (fun h42 => ?_)
            · refine Rn.iconst (v := (-1)) (pc' := 63) rfl (by decide) rfl ?_
              exact Rn.iret rfl (rfl) (⟨fun _ => ⟨rfl, QG.rfl _ _ _ _ _ _⟩, fun hg => absurd (Or.inr (Or.inr (Or.inr (Or.inl (fun z => absurd h42 (Int32.not_lt.mpr z.1)))))) hg⟩)
            · refine Rn.step (pc' := 46) rfl rfl ?_
              refine Rn.iconst (v := 100) (pc' := 48) rfl (by decide) rfl ?_
              refine Rn.icmp_gt (pc1 := 62) (pc2 := 51) rfl rfl rfl (fun h48 => ?_) (fun h48 => ?_)
              · refine Rn.iconst (v := (-1)) (pc' := 63) rfl (by decide) rfl ?_
                exact Rn.iret rfl (rfl) (⟨fun _ => ⟨rfl, QG.rfl _ _ _ _ _ _⟩, fun hg => absurd (Or.inr (Or.inr (Or.inr (Or.inl (fun z => absurd h48 (Int32.not_lt.mpr z.2)))))) hg⟩)
              · refine Rn.step (pc' := 53) rfl rfl ?_
                refine Rn.ifc_lt (pc1 := 62) (pc2 := 56) rfl rfl rfl (fun h53 => ?_) (fun h53 => ?_)
                · refine Rn.iconst (v := (-1)) (pc' := 63) rfl (by decide) rfl ?_
                  exact Rn.iret rfl (rfl) (⟨fun _ => ⟨rfl, QG.rfl _ _ _ _ _ _⟩, fun hg => absurd (Or.inr (Or.inr (Or.inr (Or.inr ((fun z => absurd h53 (Int32.not_lt.mpr z.1))))))) hg⟩)
                · refine Rn.step (pc' := 58) rfl rfl ?_
                  refine Rn.iconst (v := 1) (pc' := 59) rfl (by decide) rfl ?_
                  refine Rn.icmp_le (pc1 := 64) (pc2 := 62) rfl rfl rfl (fun h59 => ?_) (fun h59 => ?_)
                  · obtain ⟨N, hN, rfl⟩ := xN (n := 72) (by decide) (by decide) (⟨Int32.not_lt.mp h13, Int32.not_lt.mp h19⟩)
                    have eN : (nI N).toNatClampNeg = N := nI_clamp (by omega)
                    obtain ⟨Mm, hM, rfl⟩ := xN (n := 10) (by decide) (by decide) (⟨Int32.not_lt.mp h2, Int32.not_lt.mp h8⟩)
                    have eM : (nI Mm).toNatClampNeg = Mm := nI_clamp (by omega)
                    refine Rn.step (pc' := 65) rfl rfl ?_
                    refine Rn.callV (pc' := 68) rfl (by decide) (by omega) rfl rfl rfl (c_O_ready ob) (fun r_ m_ hc_ => ?_)
                    obtain ⟨rfl, H1, rfl, hH⟩ := hc_
                    refine Rn.step (pc' := 70) rfl rfl ?_
                    refine Rn.step (pc' := 71) rfl rfl ?_
                    refine Rn.getf (pc' := 74) rfl rfl rfl rfl rfl ?_
                    refine Rn.step (pc' := 75) rfl rfl ?_
                    refine Rn.getf (pc' := 78) rfl rfl rfl rfl rfl ?_
                    refine Rn.cput (pc' := 81) rfl rfl rfl rfl rfl (by decide) rfl ?_
                    refine Rn.iconst (v := 0) (pc' := 82) rfl (by decide) rfl ?_
                    refine Rn.step (pc' := 84) rfl rfl ?_
                    refine Rn.iconst (v := 0) (pc' := 85) rfl (by decide) rfl ?_
                    refine Rn.step (pc' := 87) rfl rfl ?_
                    refine (l_O_win (E := (fo, rl, -1, 0, Bn, Fn, Wn)) (gg := True) (Dx := Dx) (p := p) (y := y) (N := N) (ob.hb h33 hH) (ob.db.up (by omega)) (by omega) ob.wr (by omega) hM 0 (by omega) ⟨_, I, L, rfl, (tF.rfl (rdF F)).wh (upd (rdF F 24) 4 (rdF F 0 14)), tI.rfl I, rfl, Dx, hDx, hx0, rfl⟩).conseq ?_
                    rintro r m2 ⟨rfl, F1, I1, L1, rfl, fs1, is1⟩
                    exact ⟨fun hg => absurd hg (fun z => z.elim (fun c => c h33) (fun z => z.elim (fun c => c ⟨Int32.not_lt.mp h2, Int32.not_lt.mp h8⟩) (fun z => z.elim (fun c => c ⟨Int32.not_lt.mp h13, Int32.not_lt.mp h19⟩) (fun z => z.elim (fun c => c ⟨Int32.not_lt.mp h42, Int32.not_lt.mp h48⟩) (fun c => c ⟨Int32.not_lt.mp h53, h59⟩))))), fun _ => ⟨by rw [eN, eM], ⟨F1, I1, L1, H1, rfl, tq fs1, tqI is1⟩⟩⟩
                  · refine Rn.iconst (v := (-1)) (pc' := 63) rfl (by decide) rfl ?_
                    exact Rn.iret rfl (rfl) (⟨fun _ => ⟨rfl, QG.rfl _ _ _ _ _ _⟩, fun hg => absurd (Or.inr (Or.inr (Or.inr (Or.inr ((fun z => h59 z.2)))))) hg⟩)
set_option maxHeartbeats 4000000 in
theorem c_O_wet {d : Nat} {P Bn Fn Wn K rn : Nat} {fo : Int32} {rl : xRl} (hd : 2 ≤ d) (ob : OB P Bn Fn Wn K rn fo rl s F I R m0) (x : Int32) : Cl d j_O_wet [.ref 0, .int x] (CC m0 F I L R H) (Pi (if isPl s x then s (100 + x.toNatClampNeg) else -1) (CC m0 F I L R H)) := by
  have CW8 : CWm m0 F I L R H 8 (I 9) = CC m0 F I L R H := CW_id
  have hb6 := ob.li.b6
  show Rn d j_O_wet 0 _ _ _ _
  refine Rn.step (pc' := 1) rfl rfl ?_
  refine Rn.step (pc' := 2) rfl rfl ?_
  refine Rn.vi (pc' := 5) rfl (by decide) (by omega) rfl rfl rfl (c_O_isPlace ob.lr.p x) ?_
  refine Rn.ifp_eq (pc1 := 20) (pc2 := 8) rfl rfl rfl (fun h5 => ?_) (fun h5 => ?_)
  · refine Rn.iconst (v := (-1)) (pc' := 21) rfl (by decide) rfl ?_
    exact Rn.iret rfl (rfl) (⟨by rw [if_neg h5], rfl⟩)
  · obtain ⟨h0, hl, hw, q, hq, rfl⟩ := ob.li.plc h5
    have hp10 := hl.p10
    have eq : (nI q).toNatClampNeg = q := nI_clamp (by omega)
    refine Rn.step (pc' := 9) rfl rfl ?_
    refine Rn.getf (pc' := 12) rfl rfl rfl rfl rfl ?_
    refine Rn.getf (pc' := 15) rfl rfl rfl rfl rfl ?_
    refine Rn.step (pc' := 16) rfl rfl ?_
    refine Rn.cald (k := q) (pc' := 17) rfl rfl (by simp only [nI_lit, nI_add, pk_mul, Nat.zero_add]) (by omega) (ob.lr.we q hq) (by decide) rfl ?_
    refine Rn.step (pc' := 21) rfl rfl ?_
    exact Rn.iret rfl (rfl) (⟨by rw [if_pos h5, eq], rfl⟩)
set_option maxHeartbeats 4000000 in
theorem c_O_brother {d : Nat} {P Bn Fn Wn K rn : Nat} {fo : Int32} {rl : xRl} (hd : 3 ≤ d) (ob : OB P Bn Fn Wn K rn fo rl s F I R m0) (x y : Int32) : Cl d j_O_brother [.ref 0, .int x, .int y] (CC m0 F I L R H) (Pi (if isBr s x then aBr s x.toNatClampNeg Wn y else -1) (CC m0 F I L R H)) := by
  have CW8 : CWm m0 F I L R H 8 (I 9) = CC m0 F I L R H := CW_id
  have hb6 := ob.li.b6
  show Rn d j_O_brother 0 _ _ _ _
  refine Rn.step (pc' := 1) rfl rfl ?_
  refine Rn.step (pc' := 2) rfl rfl ?_
  refine Rn.vi (pc' := 5) rfl (by decide) (by omega) rfl rfl rfl (c_O_isBrother ob.lr.b x) ?_
  refine Rn.ifp_ne (pc1 := 10) (pc2 := 8) rfl rfl rfl (fun h5 => ?_) (fun h5 => ?_)
  · obtain ⟨h0, hl, hw, b, hb, rfl⟩ := ob.li.bro h5
    have eb : (nI b).toNatClampNeg = b := nI_clamp (by omega)
    refine Rn.step (pc' := 11) rfl rfl ?_
    rcases sw_cases y 7 (by omega) with hs11 | ⟨k11, hk11, rfl⟩
    · refine Rn.tsd (pc1 := 155) rfl hs11 rfl ?_
      refine Rn.iconst (v := (-1)) (pc' := 156) rfl (by decide) rfl ?_
      exact Rn.iret rfl (rfl) (⟨by
          rw [if_pos h5, eb]
          exact congrArg (fun z => some (Value.int z)) (Eq.symm (by
            unfold aBr
            rw [if_neg (sw_ne hs11 0 (by omega) (by omega)), if_neg (sw_ne hs11 1 (by omega) (by omega)), if_neg (sw_ne hs11 2 (by omega) (by omega)), if_neg (sw_ne hs11 3 (by omega) (by omega)), if_neg (sw_ne hs11 4 (by omega) (by omega)), if_neg (sw_ne hs11 5 (by omega) (by omega)), if_neg (sw_ne hs11 6 (by omega) (by omega)), if_neg (sw_ne hs11 7 (by omega) (by omega))])), rfl⟩)
    · match k11, hk11 with
      | 0, _ =>
        refine Rn.tsw (pc1 := 56) rfl (by decide) rfl rfl ?_
        refine Rn.step (pc' := 57) rfl rfl ?_
        refine Rn.getf (pc' := 60) rfl rfl rfl rfl rfl ?_
        refine Rn.getf (pc' := 63) rfl rfl rfl rfl rfl ?_
        refine Rn.iconst (v := 0) (pc' := 64) rfl (by decide) rfl ?_
        refine Rn.step (pc' := 65) rfl rfl ?_
        refine Rn.iadd (pc' := 66) rfl rfl ?_
        refine Rn.cald (k := b) (pc' := 67) rfl rfl (by simp only [nI_lit, nI_add, pk_mul, Nat.zero_add]) (by omega) (ob.wr.pl b hb) (by decide) rfl ?_
        exact Rn.iret rfl (rfl) (⟨by
            rw [if_pos h5, eb]
            exact congrArg (fun z => some (Value.int z)) (Eq.symm (by
              unfold aBr
              rw [if_pos rfl]
              try rfl)), rfl⟩)
      | 1, _ =>
        refine Rn.tsw (pc1 := 68) rfl (by decide) rfl rfl ?_
        refine Rn.step (pc' := 69) rfl rfl ?_
        refine Rn.getf (pc' := 72) rfl rfl rfl rfl rfl ?_
        refine Rn.getf (pc' := 75) rfl rfl rfl rfl rfl ?_
        refine Rn.step (pc' := 76) rfl rfl ?_
        refine Rn.cald (k := b) (pc' := 77) rfl rfl (by simp only [nI_lit, nI_add, pk_mul, Nat.zero_add]) (by omega) (ob.lr.hm b hb) (by decide) rfl ?_
        exact Rn.iret rfl (rfl) (⟨by
            rw [if_pos h5, eb]
            exact congrArg (fun z => some (Value.int z)) (Eq.symm (by
              unfold aBr
              rw [if_neg (show ¬ nI 1 = nI 0 by decide), if_pos rfl])), rfl⟩)
      | 2, _ =>
        refine Rn.tsw (pc1 := 78) rfl (by decide) rfl rfl ?_
        refine Rn.step (pc' := 79) rfl rfl ?_
        refine Rn.getf (pc' := 82) rfl rfl rfl rfl rfl ?_
        refine Rn.getf (pc' := 85) rfl rfl rfl rfl rfl ?_
        refine Rn.step (pc' := 86) rfl rfl ?_
        refine Rn.cald (k := b) (pc' := 87) rfl rfl (by simp only [nI_lit, nI_add, pk_mul, Nat.zero_add]) (by omega) (ob.lr.si b hb) (by decide) rfl ?_
        exact Rn.iret rfl (rfl) (⟨by
            rw [if_pos h5, eb]
            exact congrArg (fun z => some (Value.int z)) (Eq.symm (by
              unfold aBr
              rw [if_neg (show ¬ nI 2 = nI 0 by decide), if_neg (show ¬ nI 2 = nI 1 by decide), if_pos rfl])), rfl⟩)
      | 3, _ =>
        refine Rn.tsw (pc1 := 88) rfl (by decide) rfl rfl ?_
        refine Rn.step (pc' := 89) rfl rfl ?_
        refine Rn.getf (pc' := 92) rfl rfl rfl rfl rfl ?_
        refine Rn.getf (pc' := 95) rfl rfl rfl rfl rfl ?_
        refine Rn.iconst (v := 6) (pc' := 97) rfl (by decide) rfl ?_
        refine Rn.step (pc' := 98) rfl rfl ?_
        refine Rn.iadd (pc' := 99) rfl rfl ?_
        refine Rn.cald (k := 6 + b) (pc' := 100) rfl rfl (by simp only [nI_lit, nI_add, pk_mul, Nat.zero_add]) (by omega) (ob.wr.ch b hb) (by decide) rfl ?_
        exact Rn.iret rfl (rfl) (⟨by
            rw [if_pos h5, eb]
            exact congrArg (fun z => some (Value.int z)) (Eq.symm (by
              unfold aBr
              rw [if_neg (show ¬ nI 3 = nI 0 by decide), if_neg (show ¬ nI 3 = nI 1 by decide), if_neg (show ¬ nI 3 = nI 2 by decide), if_pos rfl])), rfl⟩)
      | 4, _ =>
        refine Rn.tsw (pc1 := 101) rfl (by decide) rfl rfl ?_
        refine Rn.step (pc' := 102) rfl rfl ?_
        refine Rn.getf (pc' := 105) rfl rfl rfl rfl rfl ?_
        refine Rn.getf (pc' := 108) rfl rfl rfl rfl rfl ?_
        refine Rn.iconst (v := 12) (pc' := 110) rfl (by decide) rfl ?_
        refine Rn.step (pc' := 111) rfl rfl ?_
        refine Rn.iadd (pc' := 112) rfl rfl ?_
        refine Rn.cald (k := 12 + b) (pc' := 113) rfl rfl (by simp only [nI_lit, nI_add, pk_mul, Nat.zero_add]) (by omega) (ob.wr.fz b hb) (by decide) rfl ?_
        exact Rn.iret rfl (rfl) (⟨by
            rw [if_pos h5, eb]
            exact congrArg (fun z => some (Value.int z)) (Eq.symm (by
              unfold aBr
              rw [if_neg (show ¬ nI 4 = nI 0 by decide), if_neg (show ¬ nI 4 = nI 1 by decide), if_neg (show ¬ nI 4 = nI 2 by decide), if_neg (show ¬ nI 4 = nI 3 by decide), if_pos rfl])), rfl⟩)
      | 5, _ =>
        refine Rn.tsw (pc1 := 114) rfl (by decide) rfl rfl ?_
        refine Rn.step (pc' := 115) rfl rfl ?_
        refine Rn.getf (pc' := 118) rfl rfl rfl rfl rfl ?_
        refine Rn.step (pc' := 119) rfl rfl ?_
        refine Rn.vi (pc' := 122) rfl (by decide) (by omega) rfl rfl rfl (c_W_bits8 ob.wr (nI b)) ?_
        exact Rn.iret rfl (rfl) (⟨by
            rw [if_pos h5, eb]
            exact congrArg (fun z => some (Value.int z)) (Eq.symm (by
              unfold aBr
              rw [if_neg (show ¬ nI 5 = nI 0 by decide), if_neg (show ¬ nI 5 = nI 1 by decide), if_neg (show ¬ nI 5 = nI 2 by decide), if_neg (show ¬ nI 5 = nI 3 by decide), if_neg (show ¬ nI 5 = nI 4 by decide), if_pos rfl])), rfl⟩)
      | 6, _ =>
        refine Rn.tsw (pc1 := 123) rfl (by decide) rfl rfl ?_
        refine Rn.step (pc' := 124) rfl rfl ?_
        refine Rn.getf (pc' := 127) rfl rfl rfl rfl rfl ?_
        refine Rn.getf (pc' := 130) rfl rfl rfl rfl rfl ?_
        refine Rn.iconst (v := 18) (pc' := 132) rfl (by decide) rfl ?_
        refine Rn.step (pc' := 133) rfl rfl ?_
        refine Rn.iadd (pc' := 134) rfl rfl ?_
        refine Rn.cald (k := 18 + b) (pc' := 135) rfl rfl (by simp only [nI_lit, nI_add, pk_mul, Nat.zero_add]) (by omega) (ob.wr.ea b hb) (by decide) rfl ?_
        exact Rn.iret rfl (rfl) (⟨by
            rw [if_pos h5, eb]
            exact congrArg (fun z => some (Value.int z)) (Eq.symm (by
              unfold aBr
              rw [if_neg (show ¬ nI 6 = nI 0 by decide), if_neg (show ¬ nI 6 = nI 1 by decide), if_neg (show ¬ nI 6 = nI 2 by decide), if_neg (show ¬ nI 6 = nI 3 by decide), if_neg (show ¬ nI 6 = nI 4 by decide), if_neg (show ¬ nI 6 = nI 5 by decide), if_pos rfl])), rfl⟩)
      | 7, _ =>
        refine Rn.tsw (pc1 := 136) rfl (by decide) rfl rfl ?_
        refine Rn.step (pc' := 137) rfl rfl ?_
        refine Rn.getf (pc' := 140) rfl rfl rfl rfl rfl ?_
        refine Rn.step (pc' := 141) rfl rfl ?_
        refine Rn.step (pc' := 142) rfl rfl ?_
        refine Rn.getf (pc' := 145) rfl rfl rfl rfl rfl ?_
        refine Rn.getf (pc' := 148) rfl rfl rfl rfl rfl ?_
        refine Rn.iconst (v := 30) (pc' := 150) rfl (by decide) rfl ?_
        refine Rn.cald (k := 30) (pc' := 151) rfl rfl (by simp only [nI_lit, nI_add, pk_mul, Nat.zero_add]) (by omega) (ob.wr.h) (by decide) rfl ?_
        refine Rn.vi (pc' := 154) rfl (by decide) (by omega) rfl rfl rfl (c_C_goalOf (by omega) ob.lr hl.w hl.w10 hl.wh hb6 hb) ?_
        exact Rn.iret rfl (rfl) (⟨by
            rw [if_pos h5, eb]
            exact congrArg (fun z => some (Value.int z)) (Eq.symm (by
              unfold aBr
              rw [if_neg (show ¬ nI 7 = nI 0 by decide), if_neg (show ¬ nI 7 = nI 1 by decide), if_neg (show ¬ nI 7 = nI 2 by decide), if_neg (show ¬ nI 7 = nI 3 by decide), if_neg (show ¬ nI 7 = nI 4 by decide), if_neg (show ¬ nI 7 = nI 5 by decide), if_neg (show ¬ nI 7 = nI 6 by decide), if_pos rfl])), rfl⟩)
  · refine Rn.iconst (v := (-1)) (pc' := 9) rfl (by decide) rfl ?_
    exact Rn.iret rfl (rfl) (⟨by rw [if_neg h5], rfl⟩)
set_option maxHeartbeats 4000000 in
theorem c_O_boot {d : Nat} {P Bn Fn Wn K rn : Nat} {fo : Int32} {rl : xRl} (hd : 3 ≤ d) (ob : OB P Bn Fn Wn K rn fo rl s F I R m0) (x y : Int32) : Cl d j_O_boot [.ref 0, .int x, .int y] (CC m0 F I L R H) (Pi (if isBt s x then aBo s x.toNatClampNeg y else -2) (CC m0 F I L R H)) := by
  have CW8 : CWm m0 F I L R H 8 (I 9) = CC m0 F I L R H := CW_id
  have hb6 := ob.li.b6
  show Rn d j_O_boot 0 _ _ _ _
  refine Rn.step (pc' := 1) rfl rfl ?_
  refine Rn.step (pc' := 2) rfl rfl ?_
  refine Rn.vi (pc' := 5) rfl (by decide) (by omega) rfl rfl rfl (c_O_isBoot (by omega) ob.lr.p x) ?_
  refine Rn.ifp_ne (pc1 := 11) (pc2 := 8) rfl rfl rfl (fun h5 => ?_) (fun h5 => ?_)
  · obtain ⟨k, hk, rfl⟩ := x01 h5.2
    obtain ⟨hl, hw⟩ := ob.li.lane h5.1
    have ek : (nI k).toNatClampNeg = k := nI_clamp (by omega)
    refine Rn.step (pc' := 12) rfl rfl ?_
    rcases sw_cases y 3 (by omega) with hs12 | ⟨k12, hk12, rfl⟩
    · refine Rn.tsd (pc1 := 107) rfl hs12 rfl ?_
      refine Rn.iconst (v := (-2)) (pc' := 109) rfl (by decide) rfl ?_
      exact Rn.iret rfl (rfl) (⟨by
          rw [if_pos h5, ek]
          exact congrArg (fun z => some (Value.int z)) (Eq.symm (by
            unfold aBo
            rw [if_neg (sw_ne hs12 0 (by omega) (by omega)), if_neg (sw_ne hs12 1 (by omega) (by omega)), if_neg (sw_ne hs12 2 (by omega) (by omega)), if_neg (sw_ne hs12 3 (by omega) (by omega))])), rfl⟩)
    · match k12, hk12 with
      | 0, _ =>
        refine Rn.tsw (pc1 := 44) rfl (by decide) rfl rfl ?_
        refine Rn.step (pc' := 45) rfl rfl ?_
        refine Rn.getf (pc' := 48) rfl rfl rfl rfl rfl ?_
        refine Rn.getf (pc' := 51) rfl rfl rfl rfl rfl ?_
        refine Rn.iconst (v := 24) (pc' := 53) rfl (by decide) rfl ?_
        refine Rn.step (pc' := 54) rfl rfl ?_
        refine Rn.iadd (pc' := 55) rfl rfl ?_
        refine Rn.cald (k := 24 + k) (pc' := 56) rfl rfl (by simp only [nI_lit, nI_add, pk_mul, Nat.zero_add]) (by omega) (ob.wr.wr k hk) (by decide) rfl ?_
        exact Rn.iret rfl (rfl) (⟨by
            rw [if_pos h5, ek]
            exact congrArg (fun z => some (Value.int z)) (Eq.symm (by
              unfold aBo
              rw [if_pos rfl])), rfl⟩)
      | 1, _ =>
        refine Rn.tsw (pc1 := 57) rfl (by decide) rfl rfl ?_
        refine Rn.step (pc' := 58) rfl rfl ?_
        refine Rn.getf (pc' := 61) rfl rfl rfl rfl rfl ?_
        refine Rn.step (pc' := 62) rfl rfl ?_
        refine Rn.vi (pc' := 65) rfl (by decide) (by omega) rfl rfl rfl (CW8 ▸ c_W_placeOfBoot (o := 8) (w := I 9) (gg := True) (by unfold isW; omega) ob.wr hb6 hw.wr hk) ?_
        exact Rn.iret rfl (rfl) (⟨by
            rw [if_pos h5, ek]
            exact congrArg (fun z => some (Value.int z)) (Eq.symm (by
              unfold aBo
              rw [if_neg (show ¬ nI 1 = nI 0 by decide), if_pos rfl])), rfl⟩)
      | 2, _ =>
        refine Rn.tsw (pc1 := 66) rfl (by decide) rfl rfl ?_
        refine Rn.step (pc' := 67) rfl rfl ?_
        refine Rn.getf (pc' := 70) rfl rfl rfl rfl rfl ?_
        refine Rn.getf (pc' := 73) rfl rfl rfl rfl rfl ?_
        refine Rn.iconst (v := 28) (pc' := 75) rfl (by decide) rfl ?_
        refine Rn.step (pc' := 76) rfl rfl ?_
        refine Rn.iadd (pc' := 77) rfl rfl ?_
        refine Rn.cald (k := 28 + k) (pc' := 78) rfl rfl (by simp only [nI_lit, nI_add, pk_mul, Nat.zero_add]) (by omega) (ob.wr.wo k hk) (by decide) rfl ?_
        exact Rn.iret rfl (rfl) (⟨by
            rw [if_pos h5, ek]
            exact congrArg (fun z => some (Value.int z)) (Eq.symm (by
              unfold aBo
              rw [if_neg (show ¬ nI 2 = nI 0 by decide), if_neg (show ¬ nI 2 = nI 1 by decide), if_pos rfl])), rfl⟩)
      | 3, _ =>
        refine Rn.tsw (pc1 := 79) rfl (by decide) rfl rfl ?_
        refine Rn.step (pc' := 80) rfl rfl ?_
        refine Rn.getf (pc' := 83) rfl rfl rfl rfl rfl ?_
        refine Rn.getf (pc' := 86) rfl rfl rfl rfl rfl ?_
        refine Rn.iconst (v := 28) (pc' := 88) rfl (by decide) rfl ?_
        refine Rn.step (pc' := 89) rfl rfl ?_
        refine Rn.iadd (pc' := 90) rfl rfl ?_
        refine Rn.cald (k := 28 + k) (pc' := 91) rfl rfl (by simp only [nI_lit, nI_add, pk_mul, Nat.zero_add]) (by omega) (ob.wr.wo k hk) (by decide) rfl ?_
        refine Rn.step (pc' := 92) rfl rfl ?_
        refine Rn.getf (pc' := 95) rfl rfl rfl rfl rfl ?_
        refine Rn.getf (pc' := 98) rfl rfl rfl rfl rfl ?_
        rw [ob.lr.so]
        refine Rn.icmp_lt (pc1 := 105) (pc2 := 101) rfl rfl rfl (fun h98 => ?_) (fun h98 => ?_)
        · refine Rn.iconst (v := 0) (pc' := 106) rfl (by decide) rfl ?_
          exact Rn.iret rfl (rfl) (⟨by
              rw [if_pos h5, ek]
              exact congrArg (fun z => some (Value.int z)) (Eq.symm (by
                unfold aBo
                rw [if_neg (show ¬ nI 3 = nI 0 by decide), if_neg (show ¬ nI 3 = nI 1 by decide), if_neg (show ¬ nI 3 = nI 2 by decide), if_pos rfl, if_pos h98])), rfl⟩)
        · refine Rn.iconst (v := 1) (pc' := 102) rfl (by decide) rfl ?_
          refine Rn.step (pc' := 106) rfl rfl ?_
          exact Rn.iret rfl (rfl) (⟨by
              rw [if_pos h5, ek]
              exact congrArg (fun z => some (Value.int z)) (Eq.symm (by
                unfold aBo
                rw [if_neg (show ¬ nI 3 = nI 0 by decide), if_neg (show ¬ nI 3 = nI 1 by decide), if_neg (show ¬ nI 3 = nI 2 by decide), if_pos rfl, if_neg h98])), rfl⟩)
  · refine Rn.iconst (v := (-2)) (pc' := 10) rfl (by decide) rfl ?_
    exact Rn.iret rfl (rfl) (⟨by rw [if_neg h5], rfl⟩)
set_option maxHeartbeats 4000000 in
theorem c_O_count {d : Nat} {P Bn Fn Wn K rn : Nat} {fo : Int32} {rl : xRl} (hd : 3 ≤ d) (ob : OB P Bn Fn Wn K rn fo rl s F I R m0) {v : Nat → Int32} (v2 : v 2 = F 0 12) (v21 : v 21 = F 0 13) (v27 : v 27 = F 10 2) (v22 : v 22 = F 0 14) (v1 : v 1 = F 1 1) (y : Int32) : Cl d j_O_count [.ref 0, .int y] (CC m0 F I L R H) (Pi (aCo v s Bn y) (CC m0 F I L R H)) := by
  have CW8 : CWm m0 F I L R H 8 (I 9) = CC m0 F I L R H := CW_id
  have hb6 := ob.li.b6
  show Rn d j_O_count 0 _ _ _ _
  refine Rn.step (pc' := 1) rfl rfl ?_
  rcases sw_cases y 15 (by omega) with hs1 | ⟨k1, hk1, rfl⟩
  · refine Rn.tsd (pc1 := 230) rfl hs1 rfl ?_
    refine Rn.iconst (v := (-1)) (pc' := 231) rfl (by decide) rfl ?_
    exact Rn.iret rfl (rfl) (⟨congrArg (fun z => some (Value.int z)) (Eq.symm (by
        unfold aCo
        rw [if_neg (sw_ne hs1 0 (by omega) (by omega)), if_neg (sw_ne hs1 1 (by omega) (by omega)), if_neg (sw_ne hs1 2 (by omega) (by omega)), if_neg (sw_ne hs1 3 (by omega) (by omega)), if_neg (sw_ne hs1 4 (by omega) (by omega)), if_neg (sw_ne hs1 5 (by omega) (by omega)), if_neg (sw_ne hs1 6 (by omega) (by omega)), if_neg (sw_ne hs1 7 (by omega) (by omega)), if_neg (sw_ne hs1 8 (by omega) (by omega)), if_neg (sw_ne hs1 9 (by omega) (by omega)), if_neg (sw_ne hs1 10 (by omega) (by omega)), if_neg (sw_ne hs1 11 (by omega) (by omega)), if_neg (sw_ne hs1 12 (by omega) (by omega)), if_neg (sw_ne hs1 13 (by omega) (by omega)), if_neg (sw_ne hs1 14 (by omega) (by omega)), if_neg (sw_ne hs1 15 (by omega) (by omega))])), rfl⟩)
  · match k1, hk1 with
    | 0, _ =>
      refine Rn.tsw (pc1 := 80) rfl (by decide) rfl rfl ?_
      refine Rn.step (pc' := 81) rfl rfl ?_
      refine Rn.getf (pc' := 84) rfl rfl rfl rfl rfl ?_
      refine Rn.getf (pc' := 87) rfl rfl rfl rfl rfl ?_
      exact Rn.iret rfl (rfl) (⟨congrArg (fun z => some (Value.int z)) (Eq.symm (by
          unfold aCo
          rw [if_pos rfl, ← ob.lr.p])), rfl⟩)
    | 1, _ =>
      refine Rn.tsw (pc1 := 88) rfl (by decide) rfl rfl ?_
      refine Rn.step (pc' := 89) rfl rfl ?_
      refine Rn.vi (pc' := 92) rfl (by decide) (by omega) rfl rfl rfl (c_O_hasLane ob.lr.p) ?_
      refine Rn.ifp_eq (pc1 := 105) (pc2 := 95) rfl rfl rfl (fun h92 => ?_) (fun h92 => ?_)
      · refine Rn.iconst (v := (-1)) (pc' := 106) rfl (by decide) rfl ?_
        exact Rn.iret rfl (rfl) (⟨congrArg (fun z => some (Value.int z)) (Eq.symm (by
            unfold aCo
            rw [if_neg (show ¬ nI 1 = nI 0 by decide), if_pos rfl, if_neg h92])), rfl⟩)
      · refine Rn.step (pc' := 96) rfl rfl ?_
        refine Rn.getf (pc' := 99) rfl rfl rfl rfl rfl ?_
        refine Rn.getf (pc' := 102) rfl rfl rfl rfl rfl ?_
        refine Rn.step (pc' := 106) rfl rfl ?_
        exact Rn.iret rfl (rfl) (⟨congrArg (fun z => some (Value.int z)) (Eq.symm (by
            unfold aCo
            rw [if_neg (show ¬ nI 1 = nI 0 by decide), if_pos rfl, if_pos h92, ← ob.lr.sz])), rfl⟩)
    | 2, _ =>
      refine Rn.tsw (pc1 := 107) rfl (by decide) rfl rfl ?_
      refine Rn.step (pc' := 108) rfl rfl ?_
      refine Rn.getf (pc' := 111) rfl rfl rfl rfl rfl ?_
      refine Rn.getf (pc' := 114) rfl rfl rfl rfl rfl ?_
      exact Rn.iret rfl (rfl) (⟨congrArg (fun z => some (Value.int z)) (Eq.symm (by
          unfold aCo
          rw [if_neg (show ¬ nI 2 = nI 0 by decide), if_neg (show ¬ nI 2 = nI 1 by decide), if_pos rfl, ← ob.lr.b])), rfl⟩)
    | 3, _ =>
      refine Rn.tsw (pc1 := 115) rfl (by decide) rfl rfl ?_
      refine Rn.step (pc' := 116) rfl rfl ?_
      refine Rn.getf (pc' := 119) rfl rfl rfl rfl rfl ?_
      refine Rn.getf (pc' := 122) rfl rfl rfl rfl rfl ?_
      exact Rn.iret rfl (rfl) (⟨congrArg (fun z => some (Value.int z)) (Eq.symm (by
          unfold aCo
          rw [if_neg (show ¬ nI 3 = nI 0 by decide), if_neg (show ¬ nI 3 = nI 1 by decide), if_neg (show ¬ nI 3 = nI 2 by decide), if_pos rfl, ← ob.lr.f])), rfl⟩)
    | 4, _ =>
      refine Rn.tsw (pc1 := 123) rfl (by decide) rfl rfl ?_
      refine Rn.step (pc' := 124) rfl rfl ?_
      refine Rn.getf (pc' := 127) rfl rfl rfl rfl rfl ?_
      refine Rn.getf (pc' := 130) rfl rfl rfl rfl rfl ?_
      exact Rn.iret rfl (rfl) (⟨congrArg (fun z => some (Value.int z)) (Eq.symm (by
          unfold aCo
          rw [if_neg (show ¬ nI 4 = nI 0 by decide), if_neg (show ¬ nI 4 = nI 1 by decide), if_neg (show ¬ nI 4 = nI 2 by decide), if_neg (show ¬ nI 4 = nI 3 by decide), if_pos rfl, ← ob.lr.wn])), rfl⟩)
    | 5, _ =>
      refine Rn.tsw (pc1 := 131) rfl (by decide) rfl rfl ?_
      refine Rn.step (pc' := 132) rfl rfl ?_
      refine Rn.getf (pc' := 135) rfl rfl rfl rfl rfl ?_
      exact Rn.iret rfl (rfl) (⟨congrArg (fun z => some (Value.int z)) (Eq.symm (by
          unfold aCo
          rw [if_neg (show ¬ nI 5 = nI 0 by decide), if_neg (show ¬ nI 5 = nI 1 by decide), if_neg (show ¬ nI 5 = nI 2 by decide), if_neg (show ¬ nI 5 = nI 3 by decide), if_neg (show ¬ nI 5 = nI 4 by decide), if_pos rfl, v2])), rfl⟩)
    | 6, _ =>
      refine Rn.tsw (pc1 := 136) rfl (by decide) rfl rfl ?_
      refine Rn.step (pc' := 137) rfl rfl ?_
      refine Rn.getf (pc' := 140) rfl rfl rfl rfl rfl ?_
      exact Rn.iret rfl (rfl) (⟨congrArg (fun z => some (Value.int z)) (Eq.symm (by
          unfold aCo
          rw [if_neg (show ¬ nI 6 = nI 0 by decide), if_neg (show ¬ nI 6 = nI 1 by decide), if_neg (show ¬ nI 6 = nI 2 by decide), if_neg (show ¬ nI 6 = nI 3 by decide), if_neg (show ¬ nI 6 = nI 4 by decide), if_neg (show ¬ nI 6 = nI 5 by decide), if_pos rfl, v21])), rfl⟩)
    | 7, _ =>
      refine Rn.tsw (pc1 := 141) rfl (by decide) rfl rfl ?_
      refine Rn.step (pc' := 142) rfl rfl ?_
      refine Rn.getf (pc' := 145) rfl rfl rfl rfl rfl ?_
      refine Rn.getf (pc' := 148) rfl rfl rfl rfl rfl ?_
      refine Rn.iconst (v := 30) (pc' := 150) rfl (by decide) rfl ?_
      refine Rn.cald (k := 30) (pc' := 151) rfl rfl (by simp only [nI_lit, nI_add, pk_mul, Nat.zero_add]) (by omega) (ob.wr.h) (by decide) rfl ?_
      exact Rn.iret rfl (rfl) (⟨congrArg (fun z => some (Value.int z)) (Eq.symm (by
          unfold aCo
          rw [if_neg (show ¬ nI 7 = nI 0 by decide), if_neg (show ¬ nI 7 = nI 1 by decide), if_neg (show ¬ nI 7 = nI 2 by decide), if_neg (show ¬ nI 7 = nI 3 by decide), if_neg (show ¬ nI 7 = nI 4 by decide), if_neg (show ¬ nI 7 = nI 5 by decide), if_neg (show ¬ nI 7 = nI 6 by decide), if_pos rfl])), rfl⟩)
    | 8, _ =>
      refine Rn.tsw (pc1 := 152) rfl (by decide) rfl rfl ?_
      refine Rn.step (pc' := 153) rfl rfl ?_
      refine Rn.getf (pc' := 156) rfl rfl rfl rfl rfl ?_
      refine Rn.getf (pc' := 159) rfl rfl rfl rfl rfl ?_
      refine Rn.iconst (v := 31) (pc' := 161) rfl (by decide) rfl ?_
      refine Rn.cald (k := 31) (pc' := 162) rfl rfl (by simp only [nI_lit, nI_add, pk_mul, Nat.zero_add]) (by omega) (ob.wr.d) (by decide) rfl ?_
      exact Rn.iret rfl (rfl) (⟨congrArg (fun z => some (Value.int z)) (Eq.symm (by
          unfold aCo
          rw [if_neg (show ¬ nI 8 = nI 0 by decide), if_neg (show ¬ nI 8 = nI 1 by decide), if_neg (show ¬ nI 8 = nI 2 by decide), if_neg (show ¬ nI 8 = nI 3 by decide), if_neg (show ¬ nI 8 = nI 4 by decide), if_neg (show ¬ nI 8 = nI 5 by decide), if_neg (show ¬ nI 8 = nI 6 by decide), if_neg (show ¬ nI 8 = nI 7 by decide), if_pos rfl])), rfl⟩)
    | 9, _ =>
      refine Rn.tsw (pc1 := 163) rfl (by decide) rfl rfl ?_
      refine Rn.step (pc' := 164) rfl rfl ?_
      refine Rn.getf (pc' := 167) rfl rfl rfl rfl rfl ?_
      refine Rn.vi (pc' := 170) rfl (by decide) (by omega) rfl rfl rfl (CW8 ▸ c_W_allEarned (o := 8) (w := I 9) (gg := True) (by omega) (by unfold isW; omega) ob.wr hb6) ?_
      exact Rn.iret rfl (rfl) (⟨congrArg (fun z => some (Value.int z)) (Eq.symm (by
          unfold aCo
          rw [if_neg (show ¬ nI 9 = nI 0 by decide), if_neg (show ¬ nI 9 = nI 1 by decide), if_neg (show ¬ nI 9 = nI 2 by decide), if_neg (show ¬ nI 9 = nI 3 by decide), if_neg (show ¬ nI 9 = nI 4 by decide), if_neg (show ¬ nI 9 = nI 5 by decide), if_neg (show ¬ nI 9 = nI 6 by decide), if_neg (show ¬ nI 9 = nI 7 by decide), if_neg (show ¬ nI 9 = nI 8 by decide), if_pos rfl])), rfl⟩)
    | 10, _ =>
      refine Rn.tsw (pc1 := 171) rfl (by decide) rfl rfl ?_
      refine Rn.step (pc' := 172) rfl rfl ?_
      refine Rn.getf (pc' := 175) rfl rfl rfl rfl rfl ?_
      refine Rn.getf (pc' := 178) rfl rfl rfl rfl rfl ?_
      refine Rn.iconst (v := 32) (pc' := 180) rfl (by decide) rfl ?_
      refine Rn.cald (k := 32) (pc' := 181) rfl rfl (by simp only [nI_lit, nI_add, pk_mul, Nat.zero_add]) (by omega) (ob.wr.sp trivial) (by decide) rfl ?_
      exact Rn.iret rfl (rfl) (⟨congrArg (fun z => some (Value.int z)) (Eq.symm (by
          unfold aCo
          rw [if_neg (show ¬ nI 10 = nI 0 by decide), if_neg (show ¬ nI 10 = nI 1 by decide), if_neg (show ¬ nI 10 = nI 2 by decide), if_neg (show ¬ nI 10 = nI 3 by decide), if_neg (show ¬ nI 10 = nI 4 by decide), if_neg (show ¬ nI 10 = nI 5 by decide), if_neg (show ¬ nI 10 = nI 6 by decide), if_neg (show ¬ nI 10 = nI 7 by decide), if_neg (show ¬ nI 10 = nI 8 by decide), if_neg (show ¬ nI 10 = nI 9 by decide), if_pos rfl])), rfl⟩)
    | 11, _ =>
      refine Rn.tsw (pc1 := 182) rfl (by decide) rfl rfl ?_
      refine Rn.step (pc' := 183) rfl rfl ?_
      refine Rn.getf (pc' := 186) rfl rfl rfl rfl rfl ?_
      refine Rn.getf (pc' := 189) rfl rfl rfl rfl rfl ?_
      exact Rn.iret rfl (rfl) (⟨congrArg (fun z => some (Value.int z)) (Eq.symm (by
          unfold aCo
          rw [if_neg (show ¬ nI 11 = nI 0 by decide), if_neg (show ¬ nI 11 = nI 1 by decide), if_neg (show ¬ nI 11 = nI 2 by decide), if_neg (show ¬ nI 11 = nI 3 by decide), if_neg (show ¬ nI 11 = nI 4 by decide), if_neg (show ¬ nI 11 = nI 5 by decide), if_neg (show ¬ nI 11 = nI 6 by decide), if_neg (show ¬ nI 11 = nI 7 by decide), if_neg (show ¬ nI 11 = nI 8 by decide), if_neg (show ¬ nI 11 = nI 9 by decide), if_neg (show ¬ nI 11 = nI 10 by decide), if_pos rfl, ← ob.pr.f])), rfl⟩)
    | 12, _ =>
      refine Rn.tsw (pc1 := 190) rfl (by decide) rfl rfl ?_
      refine Rn.step (pc' := 191) rfl rfl ?_
      refine Rn.getf (pc' := 194) rfl rfl rfl rfl rfl ?_
      refine Rn.getf (pc' := 197) rfl rfl rfl rfl rfl ?_
      exact Rn.iret rfl (rfl) (⟨congrArg (fun z => some (Value.int z)) (Eq.symm (by
          unfold aCo
          rw [if_neg (show ¬ nI 12 = nI 0 by decide), if_neg (show ¬ nI 12 = nI 1 by decide), if_neg (show ¬ nI 12 = nI 2 by decide), if_neg (show ¬ nI 12 = nI 3 by decide), if_neg (show ¬ nI 12 = nI 4 by decide), if_neg (show ¬ nI 12 = nI 5 by decide), if_neg (show ¬ nI 12 = nI 6 by decide), if_neg (show ¬ nI 12 = nI 7 by decide), if_neg (show ¬ nI 12 = nI 8 by decide), if_neg (show ¬ nI 12 = nI 9 by decide), if_neg (show ¬ nI 12 = nI 10 by decide), if_neg (show ¬ nI 12 = nI 11 by decide), if_pos rfl, v27])), rfl⟩)
    | 13, _ =>
      refine Rn.tsw (pc1 := 198) rfl (by decide) rfl rfl ?_
      refine Rn.step (pc' := 199) rfl rfl ?_
      refine Rn.getf (pc' := 202) rfl rfl rfl rfl rfl ?_
      exact Rn.iret rfl (rfl) (⟨congrArg (fun z => some (Value.int z)) (Eq.symm (by
          unfold aCo
          rw [if_neg (show ¬ nI 13 = nI 0 by decide), if_neg (show ¬ nI 13 = nI 1 by decide), if_neg (show ¬ nI 13 = nI 2 by decide), if_neg (show ¬ nI 13 = nI 3 by decide), if_neg (show ¬ nI 13 = nI 4 by decide), if_neg (show ¬ nI 13 = nI 5 by decide), if_neg (show ¬ nI 13 = nI 6 by decide), if_neg (show ¬ nI 13 = nI 7 by decide), if_neg (show ¬ nI 13 = nI 8 by decide), if_neg (show ¬ nI 13 = nI 9 by decide), if_neg (show ¬ nI 13 = nI 10 by decide), if_neg (show ¬ nI 13 = nI 11 by decide), if_neg (show ¬ nI 13 = nI 12 by decide), if_pos rfl, v22])), rfl⟩)
    | 14, _ =>
      refine Rn.tsw (pc1 := 203) rfl (by decide) rfl rfl ?_
      refine Rn.step (pc' := 204) rfl rfl ?_
      refine Rn.getf (pc' := 207) rfl rfl rfl rfl rfl ?_
      refine Rn.getf (pc' := 210) rfl rfl rfl rfl rfl ?_
      exact Rn.iret rfl (rfl) (⟨congrArg (fun z => some (Value.int z)) (Eq.symm (by
          unfold aCo
          rw [if_neg (show ¬ nI 14 = nI 0 by decide), if_neg (show ¬ nI 14 = nI 1 by decide), if_neg (show ¬ nI 14 = nI 2 by decide), if_neg (show ¬ nI 14 = nI 3 by decide), if_neg (show ¬ nI 14 = nI 4 by decide), if_neg (show ¬ nI 14 = nI 5 by decide), if_neg (show ¬ nI 14 = nI 6 by decide), if_neg (show ¬ nI 14 = nI 7 by decide), if_neg (show ¬ nI 14 = nI 8 by decide), if_neg (show ¬ nI 14 = nI 9 by decide), if_neg (show ¬ nI 14 = nI 10 by decide), if_neg (show ¬ nI 14 = nI 11 by decide), if_neg (show ¬ nI 14 = nI 12 by decide), if_neg (show ¬ nI 14 = nI 13 by decide), if_pos rfl, v1])), rfl⟩)
    | 15, _ =>
      refine Rn.tsw (pc1 := 211) rfl (by decide) rfl rfl ?_
      refine Rn.step (pc' := 212) rfl rfl ?_
      refine Rn.vi (pc' := 215) rfl (by decide) (by omega) rfl rfl rfl (c_O_hasLane ob.lr.p) ?_
      refine Rn.ifp_eq (pc1 := 228) (pc2 := 218) rfl rfl rfl (fun h215 => ?_) (fun h215 => ?_)
      · refine Rn.iconst (v := (-1)) (pc' := 229) rfl (by decide) rfl ?_
        exact Rn.iret rfl (rfl) (⟨congrArg (fun z => some (Value.int z)) (Eq.symm (by
            unfold aCo
            rw [if_neg (show ¬ nI 15 = nI 0 by decide), if_neg (show ¬ nI 15 = nI 1 by decide), if_neg (show ¬ nI 15 = nI 2 by decide), if_neg (show ¬ nI 15 = nI 3 by decide), if_neg (show ¬ nI 15 = nI 4 by decide), if_neg (show ¬ nI 15 = nI 5 by decide), if_neg (show ¬ nI 15 = nI 6 by decide), if_neg (show ¬ nI 15 = nI 7 by decide), if_neg (show ¬ nI 15 = nI 8 by decide), if_neg (show ¬ nI 15 = nI 9 by decide), if_neg (show ¬ nI 15 = nI 10 by decide), if_neg (show ¬ nI 15 = nI 11 by decide), if_neg (show ¬ nI 15 = nI 12 by decide), if_neg (show ¬ nI 15 = nI 13 by decide), if_neg (show ¬ nI 15 = nI 14 by decide), if_pos rfl, if_neg h215])), rfl⟩)
      · refine Rn.step (pc' := 219) rfl rfl ?_
        refine Rn.getf (pc' := 222) rfl rfl rfl rfl rfl ?_
        refine Rn.getf (pc' := 225) rfl rfl rfl rfl rfl ?_
        refine Rn.step (pc' := 229) rfl rfl ?_
        exact Rn.iret rfl (rfl) (⟨congrArg (fun z => some (Value.int z)) (Eq.symm (by
            unfold aCo
            rw [if_neg (show ¬ nI 15 = nI 0 by decide), if_neg (show ¬ nI 15 = nI 1 by decide), if_neg (show ¬ nI 15 = nI 2 by decide), if_neg (show ¬ nI 15 = nI 3 by decide), if_neg (show ¬ nI 15 = nI 4 by decide), if_neg (show ¬ nI 15 = nI 5 by decide), if_neg (show ¬ nI 15 = nI 6 by decide), if_neg (show ¬ nI 15 = nI 7 by decide), if_neg (show ¬ nI 15 = nI 8 by decide), if_neg (show ¬ nI 15 = nI 9 by decide), if_neg (show ¬ nI 15 = nI 10 by decide), if_neg (show ¬ nI 15 = nI 11 by decide), if_neg (show ¬ nI 15 = nI 12 by decide), if_neg (show ¬ nI 15 = nI 13 by decide), if_neg (show ¬ nI 15 = nI 14 by decide), if_pos rfl, if_pos h215, ← ob.lr.so])), rfl⟩)
    | kk + 16, h => exact absurd h (by omega)
end CR
