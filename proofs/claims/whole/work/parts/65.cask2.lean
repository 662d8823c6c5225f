/-! THE CLASS: what is asked, further. -/
section CP
variable {m0 : xM} {F I : Nat → Nat → Int32} {L : Nat → Nat → Int64} {R : Nat → Nat → Option Nat} {H : Value} {s w : Nat → Int32} {o : Nat} {gg : Prop}
theorem look_eq {P Bn Fn Wn K N a : Nat} {fo : Int32} {rl : xRl} {s : Nat → Int32} (f : Nat → Int32) (hP : P ≤ 10) (hP1 : 1 ≤ P) (y : Int32) : aLo a (lkM (fo, rl, -1, 0, Bn, Fn, Wn) s a N P f (Bn + 1)) Bn P y = if y = 0 then nI (lkB a (mem0 (fo, rl, -1, 0, Bn, Fn, Wn) s N) Bn (P - 1)) else alE a (mem0 (fo, rl, -1, 0, Bn, Fn, Wn) s N) (lkB a (mem0 (fo, rl, -1, 0, Bn, Fn, Wn) s N) Bn (P - 1)) Bn 4 := by
  have h : ∀ p, p < P → ∀ j, j < Bn + 1 → a.testBit j = true → lkM (fo, rl, -1, 0, Bn, Fn, Wn) s a N P f (Bn + 1) (10 * j + p) = mem0 (fo, rl, -1, 0, Bn, Fn, Wn) s N (10 * j + p) := fun p hp j hj hb => lkM_at (E := (fo, rl, -1, 0, Bn, Fn, Wn)) hP rfl (Bn + 1) j p hj hp hb
  have e1 := lkB_cg h (P - 1) (by omega)
  have h1 := lkB_le a (mem0 (fo, rl, -1, 0, Bn, Fn, Wn) s N) Bn (P - 1)
  unfold aLo
  rw [e1, alE_cg (h _ (by omega)) 4]
set_option maxHeartbeats 4000000 in
theorem c_O_look {d : Nat} {P Bn Fn Wn K rn : Nat} {fo : Int32} {rl : xRl} (hd : 9 ≤ d) (ob : OB P Bn Fn Wn K rn fo rl s F I R m0) (x y : Int32) : Cl d j_O_look [.ref 0, .int x, .int y] (CC m0 F I L R H) (fun r m2 => (gLo s x y → r = some (.int (-1)) ∧ QG m0 F I R m2) ∧ (¬ gLo s x y → (fbN (fo, rl, -1, 0, Bn, Fn, Wn) s K (Bn + 1) = 0 → r = some (.int (-2)) ∧ QG m0 F I R m2) ∧ (¬ fbN (fo, rl, -1, 0, Bn, Fn, Wn) s K (Bn + 1) = 0 → ∀ f, r = some (.int (aLo (fbN (fo, rl, -1, 0, Bn, Fn, Wn) s K (Bn + 1)) (lkM (fo, rl, -1, 0, Bn, Fn, Wn) s (fbN (fo, rl, -1, 0, Bn, Fn, Wn) s K (Bn + 1)) x.toNatClampNeg P f (Bn + 1)) Bn P y)) ∧ QG m0 F I R m2))) := by
  show Rn d j_O_look 0 _ _ _ _
  refine Rn.step (pc' := 1) rfl rfl ?_
  refine Rn.vi (pc' := 4) rfl (by decide) (by omega) rfl rfl rfl (c_O_hasLane ob.lr.p) ?_
  refine Rn.ifp_eq (pc1 := 23) (pc2 := 7) rfl rfl rfl (fun h4 => ?_) (fun h4 => ?_)
  · refine Rn.iconst (v := (-1)) (pc' := 24) rfl (by decide) rfl ?_
    exact Rn.iret rfl (rfl) (⟨fun _ => ⟨rfl, QG.rfl _ _ _ _ _ _⟩, fun hg => absurd (Or.inl h4) hg⟩)
  · refine Rn.step (pc' := 8) rfl rfl ?_
    refine Rn.si (pc' := 11) rfl (by decide) (by omega) rfl rfl (c_O_isHourOfAll x) ?_
    refine Rn.ifp_eq (pc1 := 23) (pc2 := 14) rfl rfl rfl (fun h11 => ?_) (fun h11 => ?_)
    · refine Rn.iconst (v := (-1)) (pc' := 24) rfl (by decide) rfl ?_
      exact Rn.iret rfl (rfl) (⟨fun _ => ⟨rfl, QG.rfl _ _ _ _ _ _⟩, fun hg => absurd (Or.inr (Or.inl h11)) hg⟩)
    · refine Rn.step (pc' := 15) rfl rfl ?_
      refine Rn.ifc_lt (pc1 := 23) (pc2 := 18) rfl rfl rfl (fun h15 => ?_) (fun h15 => ?_)
      · refine Rn.iconst (v := (-1)) (pc' := 24) rfl (by decide) rfl ?_
        exact Rn.iret rfl (rfl) (⟨fun _ => ⟨rfl, QG.rfl _ _ _ _ _ _⟩, fun hg => absurd (Or.inr (Or.inr ((fun z => absurd h15 (Int32.not_lt.mpr z.1))))) hg⟩)
      · refine Rn.step (pc' := 19) rfl rfl ?_
        refine Rn.iconst (v := 1) (pc' := 20) rfl (by decide) rfl ?_
        refine Rn.icmp_le (pc1 := 25) (pc2 := 23) rfl rfl rfl (fun h20 => ?_) (fun h20 => ?_)
        · have hb6 := ob.li.b6
          have ha : fbN (fo, rl, -1, 0, Bn, Fn, Wn) s K (Bn + 1) < 128 := ob_a (E := (fo, rl, -1, 0, Bn, Fn, Wn)) hb6
          have hlt : fbN (fo, rl, -1, 0, Bn, Fn, Wn) s K (Bn + 1) < 2 ^ (Bn + 1) := fbN_lt _ _ _ _
          have eft := ftG_eq Bn (by omega) (fbN (fo, rl, -1, 0, Bn, Fn, Wn) s K (Bn + 1)) hlt
          obtain ⟨hl0, hw0⟩ := ob.li.lane h4
          obtain ⟨N, hN, rfl⟩ := xN (n := 47) (by decide) (by decide) (h11)
          have eN : (nI N).toNatClampNeg = N := nI_clamp (by omega)
          refine Rn.step (pc' := 26) rfl rfl ?_
          refine Rn.callV (pc' := 29) rfl (by decide) (by omega) rfl rfl rfl (c_O_ready ob) (fun r_ m_ hc_ => ?_)
          obtain ⟨rfl, H1, rfl, hH⟩ := hc_
          refine Rn.step (pc' := 30) rfl rfl ?_
          refine Rn.step (pc' := 31) rfl rfl ?_
          refine Rn.getf (pc' := 34) rfl rfl rfl rfl rfl ?_
          refine Rn.step (pc' := 35) rfl rfl ?_
          refine Rn.step (pc' := 36) rfl rfl ?_
          refine Rn.getf (pc' := 39) rfl rfl rfl rfl rfl ?_
          refine Rn.callV (pc' := 42) rfl (by decide) (by omega) rfl rfl rfl (c_T_agr (E := (fo, rl, -1, 0, Bn, Fn, Wn)) (K := K) (ob.hb h4 hH) rfl rfl ob.pr (by omega) ⟨rdF F, I, L, rfl, tF.rfl _, tI.rfl _⟩) (fun r_ m_ hc_ => ?_)
          obtain ⟨rfl, F1, I1, L1, rfl, fs1, is1, hlow⟩ := hc_
          refine Rn.step (pc' := 44) rfl rfl ?_
          refine Rn.step (pc' := 46) rfl rfl ?_
          refine Rn.ifc_ne (pc1 := 52) (pc2 := 49) rfl rfl rfl (fun h46 => ?_) (fun h46 => ?_)
          · refine Rn.step (pc' := 53) rfl rfl ?_
            refine Rn.getf (pc' := 56) rfl rfl rfl rfl rfl ?_
            refine Rn.step (pc' := 57) rfl rfl ?_
            refine Rn.step (pc' := 59) rfl rfl ?_
            refine Rn.step (pc' := 60) rfl rfl ?_
            refine Rn.callV (pc' := 63) rfl (by decide) (by omega) rfl rfl rfl (c_T_few (E := (fo, rl, -1, 0, Bn, Fn, Wn)) (P := P) (N := N) (ob.hb h4 hH) rfl rfl ha (by omega) (by omega) ⟨F1, I1, L1, rfl, fs1, is1⟩) (fun r_ m_ hc_ => ?_)
            obtain ⟨rfl, F2, I2, L2, rfl, fs2, is2, hw⟩ := hc_
            refine Rn.step (pc' := 65) rfl rfl ?_
            refine Rn.step (pc' := 66) rfl rfl ?_
            refine Rn.ifc_ne (pc1 := 79) (pc2 := 69) rfl rfl rfl (fun h66 => ?_) (fun h66 => ?_)
            · refine Rn.step (pc' := 81) rfl rfl ?_
              exact Rn.iret rfl (rfl) (⟨fun hg => absurd hg (fun z => z.elim (fun c => c h4) (fun z => z.elim (fun c => c h11) (fun c => c ⟨Int32.not_lt.mp h15, h20⟩))), fun _ => ⟨fun z => absurd (by rw [show fbN (fo, rl, -1, 0, Bn, Fn, Wn) s K (xEv.Bn (fo, rl, -1, 0, Bn, Fn, Wn) + 1) = 0 from z]; rfl) h46, fun _ f => ⟨by
                  rw [eN, look_eq (K := K) f hl0.p10 (by have := hl0.p2; omega) y, if_neg h66], F2, I2, L2, H1, rfl, tq fs2, tqI is2⟩⟩⟩)
            · refine Rn.step (pc' := 70) rfl rfl ?_
              refine Rn.getf (pc' := 73) rfl rfl rfl rfl rfl ?_
              refine Rn.getf (pc' := 76) rfl rfl rfl rfl rfl ?_
              refine Rn.step (pc' := 81) rfl rfl ?_
              exact Rn.iret rfl (rfl) (⟨fun hg => absurd hg (fun z => z.elim (fun c => c h4) (fun z => z.elim (fun c => c h11) (fun c => c ⟨Int32.not_lt.mp h15, h20⟩))), fun _ => ⟨fun z => absurd (by rw [show fbN (fo, rl, -1, 0, Bn, Fn, Wn) s K (xEv.Bn (fo, rl, -1, 0, Bn, Fn, Wn) + 1) = 0 from z]; rfl) h46, fun _ f => ⟨by
                  rw [eN, look_eq (K := K) f hl0.p10 (by have := hl0.p2; omega) y, if_pos h66, ← hw], F2, I2, L2, H1, rfl, tq fs2, tqI is2⟩⟩⟩)
          · refine Rn.iconst (v := (-2)) (pc' := 51) rfl (by decide) rfl ?_
            exact Rn.iret rfl (rfl) (⟨fun hg => absurd hg (fun z => z.elim (fun c => c h4) (fun z => z.elim (fun c => c h11) (fun c => c ⟨Int32.not_lt.mp h15, h20⟩))), fun _ => ⟨fun _ => ⟨rfl, F1, I1, L1, H1, rfl, tq fs1, tqI is1⟩, fun z => absurd (show fbN (fo, rl, -1, 0, Bn, Fn, Wn) s K (Bn + 1) = 0 from (nI_eq (b := 0) (by omega) (by omega)).mp h46) z⟩⟩)
        · refine Rn.iconst (v := (-1)) (pc' := 24) rfl (by decide) rfl ?_
          exact Rn.iret rfl (rfl) (⟨fun _ => ⟨rfl, QG.rfl _ _ _ _ _ _⟩, fun hg => absurd (Or.inr (Or.inr ((fun z => h20 z.2)))) hg⟩)
theorem sqF {F F1 : Nat → Nat → Int32} (h : sF (rdF F) F1) : qF F F1 := fun k hk => (h.1 k (by omega) (by omega)).trans (rdF_q F k hk)
theorem sqI {I I1 : Nat → Nat → Int32} {f : Nat → Int32} (h : sI 0 (va_up I (33 + 2 * 0 + 1) f) I1) : qI I I1 := fun k hk => (h.1 k (by omega) (by omega) (by omega)).trans (up_ne I f (by omega))
theorem HB.wv {P : Nat} {E : xEv} {s : Nat → Int32} {F I : Nat → Nat → Int32} {H : Value} {m0 : xM} (h : HB P E s F I H m0) {o : Nat} (ho : isW o) (w : Nat → Int32) : HB P E s F (va_up I (o + 1) w) H m0 := ⟨h.lr.v ho w, h.wl, h.wx, h.wd, h.se, h.fd, h.ru⟩
theorem p31 {B r : Nat} (hB : B ≤ 6) (hr : r ≤ 4) : (0 + 1) * (B + 1) ^ r ≤ 2 ^ 31 := by
  have := pw_b (B := B) (e := r) hB hr
  omega
theorem c_R_find {d P N : Nat} {E : xEv} (hh : HB P E s F I H m0) (hfd : E.fd = 0) (hr : WR gg E.Bn s (I 9)) (hD : DB s 700) (hN : N ≤ 4) (hd : 9 + N ≤ d) : Cl d j_Relays_find [.ref 29, .ref 14, .ref 8, .int (nI N)] (CC m0 F I L R H) (fun r m2 => r = none ∧ ∃ F1 I1 L1, m2 = CC m0 F1 I1 L1 R H ∧ sF F F1 ∧ sI 0 (va_up I (33 + 2 * 0 + 1) (va_cpy (I (8 + 1)) (I (33 + 2 * 0 + 1)) 0 0 33)) I1 ∧ SA N E.Bn (tr2 E N s 0 0 (none, 0, 0)) F1 I1) := by
  show Rn d j_Relays_find 0 _ _ _ _
  refine Rn.step (pc' := 1) rfl rfl ?_
  refine Rn.getf (pc' := 4) rfl rfl rfl rfl rfl ?_
  refine Rn.iconst (v := 0) (pc' := 5) rfl (by decide) rfl ?_
  refine Rn.caald (a := 30) (t := 6) (n := 5) (k := 0) (v := 33 + 2 * 0) (pc' := 6) rfl rfl (by omega) rfl (by omega) (by omega) rfl (by decide) rfl ?_
  refine Rn.step (pc' := 7) rfl rfl ?_
  refine Rn.vv (pc' := 10) rfl (by decide) (by omega) rfl rfl rfl (c_W_copyFrom (o := 33 + 2 * 0) (o2 := 8) (by omega) (by unfold isW; omega) (by unfold isW; omega)) ?_
  refine Rn.step (pc' := 11) rfl rfl ?_
  refine Rn.iconst (v := 0) (pc' := 12) rfl (by decide) rfl ?_
  refine Rn.cputz (pc' := 15) rfl rfl rfl rfl rfl (by decide) (Or.inl rfl) rfl ?_
  have sf0 : sF F (va_up F 29 (upd (F 29) 2 0)) := ⟨fun k h1 h2 => up_ne F _ h2, rfl⟩
  refine Rn.step (pc' := 16) rfl rfl ?_
  refine Rn.step (pc' := 17) rfl rfl ?_
  refine Rn.step (pc' := 18) rfl rfl ?_
  refine Rn.iconst (v := 0) (pc' := 19) rfl (by decide) rfl ?_
  refine Rn.iconst (v := 0) (pc' := 20) rfl (by decide) rfl ?_
  refine Rn.callV (pc' := 23) rfl (by decide) (by omega) rfl rfl rfl (c_S (gg := gg) (N := N) (E := E) hfd hN N (d - 1) (by omega) 0 0 0 (none, 0, 0) s _ _ L (by omega) ((hh.wv (o := 33 + 2 * 0) (by unfold isW; omega) _).r (D := 0) (F1 := va_up F 29 (upd (F 29) 2 0)) sf0 (sI.rfl 0 _)) (by rw [va_up_self]; exact WR.cpy hr hh.wl.b6) (hD.up (by omega)) (Or.inl ⟨rfl, rfl⟩) (fun i hi => absurd hi (by omega)) (p31 hh.wl.b6 hN)) (fun r_ m_ hc_ => ?_)
  obtain ⟨rfl, F1, I1, L1, rfl, sf, si, sa⟩ := hc_
  exact Rn.vret rfl (⟨rfl, F1, I1, L1, rfl, sf0.trans sf, si, sa⟩)
set_option maxHeartbeats 4000000 in
theorem c_O_relay {d : Nat} {P Bn Fn Wn K rn : Nat} {fo : Int32} {rl : xRl} (hd : 15 ≤ d) (ob : OB P Bn Fn Wn K rn fo rl s F I R m0) (x y : Int32) : Cl d j_O_relay [.ref 0, .int x, .int y] (CC m0 F I L R H) (fun r m2 => (gRe s x y → r = some (.int (-3)) ∧ QG m0 F I R m2) ∧ (¬ gRe s x y → r = some (.int (aRe Bn x.toNatClampNeg (rlE (fo, rl, -1, 0, Bn, Fn, Wn) s x.toNatClampNeg ((Bn + 1) ^ x.toNatClampNeg)) y)) ∧ QG m0 F I R m2)) := by
  show Rn d j_O_relay 0 _ _ _ _
  refine Rn.step (pc' := 1) rfl rfl ?_
  refine Rn.vi (pc' := 4) rfl (by decide) (by omega) rfl rfl rfl (c_O_hasLane ob.lr.p) ?_
  refine Rn.ifp_eq (pc1 := 26) (pc2 := 7) rfl rfl rfl (fun h4 => ?_) (fun h4 => ?_)
  · refine Rn.iconst (v := (-3)) (pc' := 28) rfl (by decide) rfl ?_
    exact Rn.iret rfl (rfl) (⟨fun _ => ⟨rfl, QG.rfl _ _ _ _ _ _⟩, fun hg => absurd (Or.inl h4) hg⟩)
  · refine Rn.step (pc' := 8) rfl rfl ?_
    refine Rn.iconst (v := 1) (pc' := 9) rfl (by decide) rfl ?_
    refine Rn.icmp_lt (pc1 := 26) (pc2 := 12) rfl rfl rfl (fun h9 => ?_) (fun h9 => ?_)
    · refine Rn.iconst (v := (-3)) (pc' := 28) rfl (by decide) rfl ?_
      exact Rn.iret rfl (rfl) (⟨fun _ => ⟨rfl, QG.rfl _ _ _ _ _ _⟩, fun hg => absurd (Or.inr (Or.inl (fun z => absurd h9 (Int32.not_lt.mpr z.1)))) hg⟩)
    · refine Rn.step (pc' := 13) rfl rfl ?_
      refine Rn.iconst (v := 4) (pc' := 14) rfl (by decide) rfl ?_
      refine Rn.icmp_gt (pc1 := 26) (pc2 := 17) rfl rfl rfl (fun h14 => ?_) (fun h14 => ?_)
      · refine Rn.iconst (v := (-3)) (pc' := 28) rfl (by decide) rfl ?_
        exact Rn.iret rfl (rfl) (⟨fun _ => ⟨rfl, QG.rfl _ _ _ _ _ _⟩, fun hg => absurd (Or.inr (Or.inl (fun z => absurd h14 (Int32.not_lt.mpr z.2)))) hg⟩)
      · refine Rn.step (pc' := 18) rfl rfl ?_
        refine Rn.ifc_lt (pc1 := 26) (pc2 := 21) rfl rfl rfl (fun h18 => ?_) (fun h18 => ?_)
        · refine Rn.iconst (v := (-3)) (pc' := 28) rfl (by decide) rfl ?_
          exact Rn.iret rfl (rfl) (⟨fun _ => ⟨rfl, QG.rfl _ _ _ _ _ _⟩, fun hg => absurd (Or.inr (Or.inr ((fun z => absurd h18 (Int32.not_lt.mpr z.1))))) hg⟩)
        · refine Rn.step (pc' := 22) rfl rfl ?_
          refine Rn.iconst (v := 4) (pc' := 23) rfl (by decide) rfl ?_
          refine Rn.icmp_le (pc1 := 29) (pc2 := 26) rfl rfl rfl (fun h23 => ?_) (fun h23 => ?_)
          · obtain ⟨hl0, hw0⟩ := ob.li.lane h4
            have hb6 := ob.li.b6
            obtain ⟨N, hN, rfl⟩ := xN (n := 4) (by decide) (by decide) (⟨Int32.not_lt.mp h9, Int32.not_lt.mp h14⟩)
            have eN : (nI N).toNatClampNeg = N := nI_clamp (by omega)
            have hN1 : 1 ≤ N := by
              have := (nI_leI (a := 1) (b := N) (by omega) (by omega)).mp (Int32.not_lt.mp h9)
              omega
            refine Rn.step (pc' := 30) rfl rfl ?_
            refine Rn.step (pc' := 31) rfl rfl ?_
            refine Rn.icmp_le (pc1 := 37) (pc2 := 34) rfl rfl rfl (fun h31 => ?_) (fun h31 => ?_)
            · refine Rn.step (pc' := 38) rfl rfl ?_
              refine Rn.getf (pc' := 41) rfl rfl rfl rfl rfl ?_
              refine Rn.step (pc' := 42) rfl rfl ?_
              refine Rn.callV (pc' := 45) rfl (by decide) (by omega) rfl rfl rfl (c_O_ready ob) (fun r_ m_ hc_ => ?_)
              obtain ⟨rfl, H1, rfl, hH⟩ := hc_
              refine Rn.step (pc' := 46) rfl rfl ?_
              refine Rn.getf (pc' := 49) rfl rfl rfl rfl rfl ?_
              refine Rn.step (pc' := 50) rfl rfl ?_
              refine Rn.callV (pc' := 53) rfl (by decide) (by omega) rfl rfl rfl (c_R_find (E := (fo, rl, -1, 0, Bn, Fn, Wn)) (gg := True) (N := N) (ob.hb h4 hH) rfl ob.wr (ob.db.up (by omega)) hN (by omega)) (fun r_ m_ hc_ => ?_)
              obtain ⟨rfl, F1, I1, L1, rfl, sf, si, sa⟩ := hc_
              have hrl : rlE (fo, rl, -1, 0, Bn, Fn, Wn) s N ((Bn + 1) ^ N) = tr2 (fo, rl, -1, 0, Bn, Fn, Wn) N s 0 0 (none, 0, 0) := (rlE_tr (fo, rl, -1, 0, Bn, Fn, Wn) s N).trans (tr_eq N s 0 0 _ (p31 hb6 hN))
              have hK := Nat.pow_pos (n := N) (show 0 < Bn + 1 by omega)
              obtain ⟨c, hc1, hc2⟩ := rlE_some (fo, rl, -1, 0, Bn, Fn, Wn) s N ((Bn + 1) ^ N - 1)
              rw [show (Bn + 1) ^ N - 1 + 1 = (Bn + 1) ^ N by omega, hrl] at hc1
              obtain ⟨c2, hsome, -, hfound, hpay, hchill, hnm⟩ := sa.resolve_left (fun z => by
                have := z.1
                rw [hc1] at this
                cases this)
              refine Rn.step (pc' := 54) rfl rfl ?_
              refine Rn.ifc_ne (pc1 := 67) (pc2 := 57) rfl rfl rfl (fun h54 => ?_) (fun h54 => ?_)
              · obtain ⟨Y, hY, rfl⟩ := xN (n := 4) (by decide) (by decide) (⟨Int32.not_lt.mp h18, h23⟩)
                have hY2 := (nI_leI (a := Y) (b := N) (by omega) (by omega)).mp h31
                have hY1 : Y ≠ 0 := fun z => h54 (by rw [z]; rfl)
                have eY : (nI Y).toNatClampNeg = Y := nI_clamp (by omega)
                refine Rn.step (pc' := 68) rfl rfl ?_
                refine Rn.getf (pc' := 71) rfl rfl rfl rfl rfl ?_
                refine Rn.getf (pc' := 74) rfl rfl rfl rfl rfl ?_
                refine Rn.step (pc' := 75) rfl rfl ?_
                refine Rn.iconst (v := 1) (pc' := 76) rfl (by decide) rfl ?_
                refine Rn.isub (pc' := 77) rfl rfl ?_
                refine Rn.cald (k := Y - 1) (pc' := 78) rfl rfl (nI_sub (b := 1) (by omega) (by omega)) (by omega) (hnm (Y - 1) (by omega)) (by decide) rfl ?_
                exact Rn.iret rfl (rfl) (⟨fun hg => absurd hg (fun z => z.elim (fun c => c h4) (fun z => z.elim (fun c => c ⟨Int32.not_lt.mp h9, Int32.not_lt.mp h14⟩) (fun c => c ⟨Int32.not_lt.mp h18, h23⟩))), fun _ => ⟨by
                    unfold aRe
                    rw [if_neg h54, eN, if_neg (Int32.not_lt.mpr h31), hrl, hsome, eY]
                    rfl, ⟨F1, I1, L1, H1, rfl, sqF sf, sqI si⟩⟩⟩)
              · refine Rn.step (pc' := 58) rfl rfl ?_
                refine Rn.getf (pc' := 61) rfl rfl rfl rfl rfl ?_
                refine Rn.getf (pc' := 64) rfl rfl rfl rfl rfl ?_
                refine Rn.step (pc' := 78) rfl rfl ?_
                exact Rn.iret rfl (rfl) (⟨fun hg => absurd hg (fun z => z.elim (fun c => c h4) (fun z => z.elim (fun c => c ⟨Int32.not_lt.mp h9, Int32.not_lt.mp h14⟩) (fun c => c ⟨Int32.not_lt.mp h18, h23⟩))), fun _ => ⟨by
                    unfold aRe
                    rw [if_pos h54, eN, hrl, hpay], ⟨F1, I1, L1, H1, rfl, sqF sf, sqI si⟩⟩⟩)
            · refine Rn.iconst (v := (-2)) (pc' := 36) rfl (by decide) rfl ?_
              exact Rn.iret rfl (rfl) (⟨fun hg => absurd hg (fun z => z.elim (fun c => c h4) (fun z => z.elim (fun c => c ⟨Int32.not_lt.mp h9, Int32.not_lt.mp h14⟩) (fun c => c ⟨Int32.not_lt.mp h18, h23⟩))), fun _ => ⟨by
                  unfold aRe
                  have hlt : nI N < y := Int32.not_le.mp h31
                  rw [if_neg (fun z => by rw [z] at hlt; exact nI_pos (show N < 2 ^ 31 by omega) hlt), eN, if_pos hlt], QG.rfl _ _ _ _ _ _⟩⟩)
          · refine Rn.iconst (v := (-3)) (pc' := 28) rfl (by decide) rfl ?_
            exact Rn.iret rfl (rfl) (⟨fun _ => ⟨rfl, QG.rfl _ _ _ _ _ _⟩, fun hg => absurd (Or.inr (Or.inr ((fun z => h23 z.2)))) hg⟩)
set_option maxHeartbeats 4000000 in
theorem c_O_cobbler {d : Nat} {P Bn Fn Wn K rn : Nat} {fo : Int32} {rl : xRl} (hd : 4 ≤ d) (ob : OB P Bn Fn Wn K rn fo rl s F I R m0) (x n ww c f y : Int32) (C0 : Nat → Int32) : Cl d j_O_cobbler [.ref 0, .int x, .int n, .int ww, .int c, .int f, .int y] (CC m0 F I L R H) (fun r m2 => (gCb s x n ww c f y → r = some (.int (-2)) ∧ QG m0 F I R m2) ∧ (¬ gCb s x n ww c f y → r = some (.int (if y = 0 then (cbE (s 8) (s (46 + 3 * x.toNatClampNeg + 2)) ww f (cFr (s 8) ww f c n.toNatClampNeg C0 n.toNatClampNeg) n.toNatClampNeg n.toNatClampNeg).2 else (cbE (s 8) (s (46 + 3 * x.toNatClampNeg + 2)) ww f (cFr (s 8) ww f c n.toNatClampNeg C0 n.toNatClampNeg) n.toNatClampNeg n.toNatClampNeg).1)) ∧ QG m0 F I R m2)) := by
  show Rn d j_O_cobbler 0 _ _ _ _
  refine Rn.step (pc' := 1) rfl rfl ?_
  refine Rn.step (pc' := 2) rfl rfl ?_
  refine Rn.vi (pc' := 5) rfl (by decide) (by omega) rfl rfl rfl (c_O_isBoot (by omega) ob.lr.p x) ?_
  refine Rn.ifp_eq (pc1 := 34) (pc2 := 8) rfl rfl rfl (fun h5 => ?_) (fun h5 => ?_)
  · refine Rn.iconst (v := 0) (pc' := 35) rfl (by decide) rfl ?_
    refine Rn.step (pc' := 37) rfl rfl ?_
    refine Rn.step (pc' := 39) rfl rfl ?_
    refine Rn.ifc_eq (pc1 := 65) (pc2 := 42) rfl rfl rfl (fun h39 => ?_) (fun h39 => absurd (rfl) h39)
    refine Rn.iconst (v := (-2)) (pc' := 67) rfl (by decide) rfl ?_
    exact Rn.iret rfl (rfl) (⟨fun _ => ⟨rfl, QG.rfl _ _ _ _ _ _⟩, fun hg => absurd (Decidable.byContradiction (fun hg2 => h5 ⟨Decidable.byContradiction (fun z => hg2 (Or.inl z)), Decidable.byContradiction (fun z => hg2 (Or.inr (Or.inl z)))⟩)) hg⟩)
  · refine Rn.step (pc' := 9) rfl rfl ?_
    refine Rn.iconst (v := 1) (pc' := 10) rfl (by decide) rfl ?_
    refine Rn.icmp_lt (pc1 := 34) (pc2 := 13) rfl rfl rfl (fun h10 => ?_) (fun h10 => ?_)
    · refine Rn.iconst (v := 0) (pc' := 35) rfl (by decide) rfl ?_
      refine Rn.step (pc' := 37) rfl rfl ?_
      refine Rn.step (pc' := 39) rfl rfl ?_
      refine Rn.ifc_eq (pc1 := 65) (pc2 := 42) rfl rfl rfl (fun h39 => ?_) (fun h39 => absurd (rfl) h39)
      refine Rn.iconst (v := (-2)) (pc' := 67) rfl (by decide) rfl ?_
      exact Rn.iret rfl (rfl) (⟨fun _ => ⟨rfl, QG.rfl _ _ _ _ _ _⟩, fun hg => absurd (Or.inr (Or.inr (Or.inl (fun z => absurd h10 (Int32.not_lt.mpr z.1))))) hg⟩)
    · refine Rn.step (pc' := 14) rfl rfl ?_
      refine Rn.iconst (v := 30) (pc' := 16) rfl (by decide) rfl ?_
      refine Rn.icmp_gt (pc1 := 34) (pc2 := 19) rfl rfl rfl (fun h16 => ?_) (fun h16 => ?_)
      · refine Rn.iconst (v := 0) (pc' := 35) rfl (by decide) rfl ?_
        refine Rn.step (pc' := 37) rfl rfl ?_
        refine Rn.step (pc' := 39) rfl rfl ?_
        refine Rn.ifc_eq (pc1 := 65) (pc2 := 42) rfl rfl rfl (fun h39 => ?_) (fun h39 => absurd (rfl) h39)
        refine Rn.iconst (v := (-2)) (pc' := 67) rfl (by decide) rfl ?_
        exact Rn.iret rfl (rfl) (⟨fun _ => ⟨rfl, QG.rfl _ _ _ _ _ _⟩, fun hg => absurd (Or.inr (Or.inr (Or.inl (fun z => absurd h16 (Int32.not_lt.mpr z.2))))) hg⟩)
      · refine Rn.step (pc' := 21) rfl rfl ?_
        refine Rn.ifc_lt (pc1 := 34) (pc2 := 24) rfl rfl rfl (fun h21 => ?_) (fun h21 => ?_)
        · refine Rn.iconst (v := 0) (pc' := 35) rfl (by decide) rfl ?_
          refine Rn.step (pc' := 37) rfl rfl ?_
          refine Rn.step (pc' := 39) rfl rfl ?_
          refine Rn.ifc_eq (pc1 := 65) (pc2 := 42) rfl rfl rfl (fun h39 => ?_) (fun h39 => absurd (rfl) h39)
          refine Rn.iconst (v := (-2)) (pc' := 67) rfl (by decide) rfl ?_
          exact Rn.iret rfl (rfl) (⟨fun _ => ⟨rfl, QG.rfl _ _ _ _ _ _⟩, fun hg => absurd (Or.inr (Or.inr (Or.inr (Or.inr (Or.inr (Or.inr ((fun z => absurd h21 (Int32.not_lt.mpr z.1))))))))) hg⟩)
        · refine Rn.step (pc' := 26) rfl rfl ?_
          refine Rn.iconst (v := 1) (pc' := 27) rfl (by decide) rfl ?_
          refine Rn.icmp_gt (pc1 := 34) (pc2 := 30) rfl rfl rfl (fun h27 => ?_) (fun h27 => ?_)
          · refine Rn.iconst (v := 0) (pc' := 35) rfl (by decide) rfl ?_
            refine Rn.step (pc' := 37) rfl rfl ?_
            refine Rn.step (pc' := 39) rfl rfl ?_
            refine Rn.ifc_eq (pc1 := 65) (pc2 := 42) rfl rfl rfl (fun h39 => ?_) (fun h39 => absurd (rfl) h39)
            refine Rn.iconst (v := (-2)) (pc' := 67) rfl (by decide) rfl ?_
            exact Rn.iret rfl (rfl) (⟨fun _ => ⟨rfl, QG.rfl _ _ _ _ _ _⟩, fun hg => absurd (Or.inr (Or.inr (Or.inr (Or.inr (Or.inr (Or.inr ((fun z => absurd h27 (Int32.not_lt.mpr z.2))))))))) hg⟩)
          · refine Rn.iconst (v := 1) (pc' := 31) rfl (by decide) rfl ?_
            refine Rn.step (pc' := 35) rfl rfl ?_
            refine Rn.step (pc' := 37) rfl rfl ?_
            refine Rn.step (pc' := 39) rfl rfl ?_
            refine Rn.ifc_eq (pc1 := 65) (pc2 := 42) rfl rfl rfl (fun h39 => absurd h39 (by decide)) (fun h39 => ?_)
            refine Rn.step (pc' := 43) rfl rfl ?_
            refine Rn.si (pc' := 46) rfl (by decide) (by omega) rfl rfl (c_O_isUpTo99 ww) ?_
            refine Rn.ifp_eq (pc1 := 65) (pc2 := 49) rfl rfl rfl (fun h46 => ?_) (fun h46 => ?_)
            · refine Rn.iconst (v := (-2)) (pc' := 67) rfl (by decide) rfl ?_
              exact Rn.iret rfl (rfl) (⟨fun _ => ⟨rfl, QG.rfl _ _ _ _ _ _⟩, fun hg => absurd (Or.inr (Or.inr (Or.inr (Or.inl h46)))) hg⟩)
            · refine Rn.step (pc' := 51) rfl rfl ?_
              refine Rn.si (pc' := 54) rfl (by decide) (by omega) rfl rfl (c_O_isUpTo99 c) ?_
              refine Rn.ifp_eq (pc1 := 65) (pc2 := 57) rfl rfl rfl (fun h54 => ?_) (fun h54 => ?_)
              · refine Rn.iconst (v := (-2)) (pc' := 67) rfl (by decide) rfl ?_
                exact Rn.iret rfl (rfl) (⟨fun _ => ⟨rfl, QG.rfl _ _ _ _ _ _⟩, fun hg => absurd (Or.inr (Or.inr (Or.inr (Or.inr (Or.inl h54))))) hg⟩)
              · refine Rn.step (pc' := 59) rfl rfl ?_
                refine Rn.si (pc' := 62) rfl (by decide) (by omega) rfl rfl (c_O_isUpTo99 f) ?_
                refine Rn.ifp_ne (pc1 := 68) (pc2 := 65) rfl rfl rfl (fun h62 => ?_) (fun h62 => ?_)
                · obtain ⟨b, hb, rfl⟩ := x01 h5.2
                  have eb : (nI b).toNatClampNeg = b := nI_clamp (by omega)
                  obtain ⟨N, hN, rfl⟩ := xN (n := 30) (by decide) (by decide) (⟨Int32.not_lt.mp h10, Int32.not_lt.mp h16⟩)
                  have eN : (nI N).toNatClampNeg = N := nI_clamp (by omega)
                  have hN1 : 1 ≤ N := by
                    have := (nI_leI (a := 1) (b := N) (by omega) (by omega)).mp (Int32.not_lt.mp h10)
                    omega
                  refine Rn.step (pc' := 69) rfl rfl ?_
                  refine Rn.getf (pc' := 72) rfl rfl rfl rfl rfl ?_
                  refine Rn.step (pc' := 73) rfl rfl ?_
                  refine Rn.getf (pc' := 76) rfl rfl rfl rfl rfl ?_
                  refine Rn.getf (pc' := 79) rfl rfl rfl rfl rfl ?_
                  refine Rn.step (pc' := 80) rfl rfl ?_
                  refine Rn.getf (pc' := 83) rfl rfl rfl rfl rfl ?_
                  refine Rn.getf (pc' := 86) rfl rfl rfl rfl rfl ?_
                  refine Rn.iconst (v := 28) (pc' := 88) rfl (by decide) rfl ?_
                  refine Rn.step (pc' := 89) rfl rfl ?_
                  refine Rn.iadd (pc' := 90) rfl rfl ?_
                  refine Rn.cald (k := 28 + b) (pc' := 91) rfl rfl (by simp only [nI_lit, nI_add, pk_mul, Nat.zero_add]) (by omega) (ob.wr.wo b hb) (by decide) rfl ?_
                  refine Rn.step (pc' := 92) rfl rfl ?_
                  refine Rn.step (pc' := 93) rfl rfl ?_
                  refine Rn.step (pc' := 95) rfl rfl ?_
                  refine Rn.step (pc' := 97) rfl rfl ?_
                  rw [ob.lr.so]
                  refine Rn.callV (pc' := 100) rfl (by decide) (by omega) rfl rfl rfl (c_T_lc (s 8) (s (46 + 3 * b + 2)) ww f c C0 hN1 hN (by omega) h62 h54) (fun r_ m_ hc_ => ?_)
                  obtain ⟨rfl, F1, I1, rfl, f1, i1, hw⟩ := hc_
                  refine Rn.step (pc' := 102) rfl rfl ?_
                  refine Rn.step (pc' := 104) rfl rfl ?_
                  refine Rn.ifc_ne (pc1 := 112) (pc2 := 107) rfl rfl rfl (fun h104 => ?_) (fun h104 => ?_)
                  · refine Rn.step (pc' := 113) rfl rfl ?_
                    refine Rn.getf (pc' := 116) rfl rfl rfl rfl rfl ?_
                    refine Rn.getf (pc' := 119) rfl rfl rfl rfl rfl ?_
                    exact Rn.iret rfl (rfl) (⟨fun hg => absurd hg (fun z => z.elim (fun c => c h5.1) (fun z => z.elim (fun c => c h5.2) (fun z => z.elim (fun c => c ⟨Int32.not_lt.mp h10, Int32.not_lt.mp h16⟩) (fun z => z.elim (fun c => c h46) (fun z => z.elim (fun c => c h54) (fun z => z.elim (fun c => c h62) (fun c => c ⟨Int32.not_lt.mp h21, Int32.not_lt.mp h27⟩))))))), fun _ => ⟨by
                        rw [eb, eN, if_neg h104, ← hw], ⟨F1, I1, L, H, rfl, fun k hk => f1 k (by omega), fun k hk => i1 k (by omega)⟩⟩⟩)
                  · refine Rn.step (pc' := 109) rfl rfl ?_
                    refine Rn.step (pc' := 119) rfl rfl ?_
                    exact Rn.iret rfl (rfl) (⟨fun hg => absurd hg (fun z => z.elim (fun c => c h5.1) (fun z => z.elim (fun c => c h5.2) (fun z => z.elim (fun c => c ⟨Int32.not_lt.mp h10, Int32.not_lt.mp h16⟩) (fun z => z.elim (fun c => c h46) (fun z => z.elim (fun c => c h54) (fun z => z.elim (fun c => c h62) (fun c => c ⟨Int32.not_lt.mp h21, Int32.not_lt.mp h27⟩))))))), fun _ => ⟨by
                        rw [eb, eN, if_pos h104], ⟨F1, I1, L, H, rfl, fun k hk => f1 k (by omega), fun k hk => i1 k (by omega)⟩⟩⟩)
                · refine Rn.iconst (v := (-2)) (pc' := 67) rfl (by decide) rfl ?_
                  exact Rn.iret rfl (rfl) (⟨fun _ => ⟨rfl, QG.rfl _ _ _ _ _ _⟩, fun hg => absurd (Or.inr (Or.inr (Or.inr (Or.inr (Or.inr (Or.inl h62)))))) hg⟩)
end CP
