/-! THE MODEL: relay, prints. -/
section MF
variable {m0 : xM} {v : Nat → Int32} {dx : Int64} {A : Nat → Nat → Int32} {LA : Nat → Nat → Int64} {s : Nat → Int32}
/-- the best of the first c rows of names: its number, pay, chill -/
def rlE (E : xEv) (s : Nat → Int32) (N : Nat) : Nat → Option Nat × Int32 × Int32
  | 0 => (none, 0, 0)
  | c + 1 => if ¬ eO (rlE E s N c).1 < 0 ∧ ((rrE E s N c N).2 < (rlE E s N c).2.1 ∨ ((rrE E s N c N).2 = (rlE E s N c).2.1 ∧ ¬ mCs (rrE E s N c N).1 E.Bn < (rlE E s N c).2.2)) then rlE E s N c else (some c, (rrE E s N c N).2, mCs (rrE E s N c N).1 E.Bn)
theorem rlE_s (E : xEv) (s : Nat → Int32) (N c : Nat) : rlE E s N (c + 1) = if ¬ eO (rlE E s N c).1 < 0 ∧ ((rrE E s N c N).2 < (rlE E s N c).2.1 ∨ ((rrE E s N c N).2 = (rlE E s N c).2.1 ∧ ¬ mCs (rrE E s N c N).1 E.Bn < (rlE E s N c).2.2)) then rlE E s N c else (some c, (rrE E s N c N).2, mCs (rrE E s N c N).1 E.Bn) := rfl
theorem rlE_some (E : xEv) (s : Nat → Int32) (N : Nat) : ∀ c, ∃ q, (rlE E s N (c + 1)).1 = some q ∧ q ≤ c := by
  intro c
  induction c with
  | zero =>
    rw [rlE_s, if_neg (fun z => z.1 (by show eO none < 0; decide))]
    exact ⟨0, rfl, Nat.le_refl _⟩
  | succ c ih =>
    rw [rlE_s]
    split
    · obtain ⟨q, h1, h2⟩ := ih
      exact ⟨q, h1, by omega⟩
    · exact ⟨c + 1, rfl, Nat.le_refl _⟩
def gRe (s : Nat → Int32) (x y : Int32) : Prop := ¬ 0 < s 0 ∨ ¬ (1 ≤ x ∧ x ≤ 4) ∨ ¬ (0 ≤ y ∧ y ≤ 4)
def aRe (Bn N : Nat) (q : Option Nat × Int32 × Int32) (y : Int32) : Int32 := if y = 0 then q.2.1 else if nI N < y then -2 else nI (nmd Bn N (q.1.getD 0) (y.toNatClampNeg - 1)) - 1
theorem l_M_relay {d P Bn Fn Wn N K : Nat} {rl : xRl} {y : Int32} (hl : WL P Bn Fn Wn s) (hw : WD P Bn s) (hv : v 24 = 0 ∨ v 24 = 1) (hru : mRu v A rl) (hd : 7 ≤ d) (hN1 : 1 ≤ N ∧ 0 < K ∧ (0 ≤ y ∧ y ≤ 4)) (hN : N ≤ 4) (hK : (Bn + 1) ^ N = K) (hK2 : K ≤ 2401) (k : Nat) (hk : k ≤ K) {m : xM} (hm : MG m0 v A s m) : Rn d j_M_relay 45 [.ref 50, .int (nI N), .int y, .int (eO (rlE (evf v rl Bn Fn Wn) s N k).1), .int (rlE (evf v rl Bn Fn Wn) s N k).2.1, .int (rlE (evf v rl Bn Fn Wn) s N k).2.2, .int (nI k)] [] m (fun r m2 => r = some (.int (aRe Bn N (rlE (evf v rl Bn Fn Wn) s N K) y)) ∧ MG m0 v A s m2) := by
  have hy := hN1.2.2
  have hK0 := hN1.2.1
  obtain ⟨v1, dx1, A1, LA1, rfl, vs1, as1⟩ := hm
  have hb6 := hl.b6
  refine Rn.step (pc' := 47) rfl rfl ?_
  refine Rn.step (pc' := 48) rfl rfl ?_
  refine Rn.getf (pc' := 51) rfl rfl rfl rfl rfl ?_
  refine Rn.iconst (v := 2) (pc' := 52) rfl (by decide) rfl ?_
  refine Rn.sald (k := 2) (pc' := 53) rfl rfl (by simp only [nI_lit, nI_add, pk_mul]) (by omega) (by decide) rfl ?_
  refine Rn.iconst (v := 1) (pc' := 54) rfl (by decide) rfl ?_
  refine Rn.iadd (pc' := 55) rfl rfl ?_
  refine Rn.step (pc' := 56) rfl rfl ?_
  rw [hl.b, show nI Bn + 1 = nI (Bn + 1) from nI_1 Bn]
  refine Rn.si (pc' := 59) rfl (by decide) (by omega) rfl rfl (c_M_power (B := Bn + 1) (N := N) (by omega)) ?_
  rw [hK]
  refine Rn.icmp_ge (pc1 := 124) (pc2 := 62) rfl rfl rfl (fun h59 => ?_) (fun h59 => ?_)
  · obtain rfl := nI_up (by omega) hk h59
    obtain ⟨K0, rfl⟩ : ∃ K0, k = K0 + 1 := ⟨k - 1, by omega⟩
    obtain ⟨c, hc1, hc2⟩ := rlE_some (evf v rl Bn Fn Wn) s N K0
    refine Rn.step (pc' := 125) rfl rfl ?_
    refine Rn.ifc_ne (pc1 := 133) (pc2 := 128) rfl rfl rfl (fun h125 => ?_) (fun h125 => ?_)
    · refine Rn.step (pc' := 134) rfl rfl ?_
      refine Rn.step (pc' := 135) rfl rfl ?_
      refine Rn.icmp_le (pc1 := 143) (pc2 := 138) rfl rfl rfl (fun h135 => ?_) (fun h135 => ?_)
      · obtain ⟨Y, hY, rfl⟩ := xN (n := 4) (by decide) (by decide) hy
        have hY2 := (nI_leI (a := Y) (b := N) (by omega) (by omega)).mp h135
        have hY1 : Y ≠ 0 := fun z => h125 (by rw [z]; rfl)
        have eY : (nI Y).toNatClampNeg = Y := nI_clamp (by omega)
        refine Rn.step (pc' := 144) rfl rfl ?_
        refine Rn.step (pc' := 145) rfl rfl ?_
        refine Rn.step (pc' := 146) rfl rfl ?_
        refine Rn.step (pc' := 147) rfl rfl ?_
        refine Rn.iconst (v := 1) (pc' := 148) rfl (by decide) rfl ?_
        refine Rn.isub (pc' := 149) rfl rfl ?_
        rw [show nI Y - 1 = nI (Y - 1) from nI_sub (b := 1) (by omega) (by omega), hc1]
        refine Rn.vi (pc' := 152) rfl (by decide) (by omega) rfl rfl rfl (c_M_namedIn (c := c) (j := Y - 1) (by omega) hl.b hl.b6 hN (by omega) (by omega)) ?_
        exact Rn.iret rfl (rfl) (⟨by
            unfold aRe
            rw [if_neg h125, if_neg (Int32.not_lt.mpr h135), hc1, eY]
            try rw [show (some c).getD 0 = c from rfl], v1, dx1, A1, LA1, rfl, vs1, as1⟩)
      · refine Rn.iconst (v := (-2)) (pc' := 140) rfl (by decide) rfl ?_
        refine Rn.step (pc' := 152) rfl rfl ?_
        exact Rn.iret rfl (rfl) (⟨by
            unfold aRe
            rw [if_neg h125, if_pos (Int32.not_le.mp h135)], v1, dx1, A1, LA1, rfl, vs1, as1⟩)
    · refine Rn.step (pc' := 130) rfl rfl ?_
      refine Rn.step (pc' := 152) rfl rfl ?_
      exact Rn.iret rfl (rfl) (⟨by
          unfold aRe
          rw [if_pos h125], v1, dx1, A1, LA1, rfl, vs1, as1⟩)
  · have hk2 := nI_dn (by omega) hk h59
    refine Rn.step (pc' := 63) rfl rfl ?_
    refine Rn.step (pc' := 65) rfl rfl ?_
    refine Rn.step (pc' := 66) rfl rfl ?_
    refine Rn.callV (pc' := 69) rfl (by decide) (by omega) rfl rfl rfl (c_M_runsRelay hl hw hv hru (by omega) hN (by omega) ⟨v1, dx1, A1, LA1, rfl, vs1, as1⟩) (fun r_ m_ hc_ => ?_)
    obtain ⟨rfl, v3, dx3, A3, LA3, rfl, vs3, as3, q31, q32, -⟩ := hc_
    refine Rn.step (pc' := 70) rfl rfl ?_
    refine Rn.ifc_lt (pc1 := 103) (pc2 := 73) rfl rfl rfl (fun h70 => ?_) (fun h70 => ?_)
    · refine Rn.step (pc' := 105) rfl rfl ?_
      refine Rn.step (pc' := 106) rfl rfl ?_
      refine Rn.step (pc' := 107) rfl rfl ?_
      refine Rn.getf (pc' := 110) rfl rfl rfl rfl rfl ?_
      refine Rn.step (pc' := 112) rfl rfl ?_
      refine Rn.step (pc' := 113) rfl rfl ?_
      refine Rn.getf (pc' := 116) rfl rfl rfl rfl rfl ?_
      refine Rn.step (pc' := 118) rfl rfl ?_
      refine Rn.step (pc' := 121) rfl rfl ?_
      refine Rn.step (pc' := 45) rfl rfl ?_
      have e : rlE (evf v rl Bn Fn Wn) s N (k + 1) = (some k, (rrE (evf v rl Bn Fn Wn) s N k N).2, mCs (rrE (evf v rl Bn Fn Wn) s N k N).1 Bn) := by rw [rlE_s, if_neg (fun z => z.1 h70)]
      have := l_M_relay (y := y) hl hw hv hru hd hN1 hN hK hK2 (k + 1) (by omega) ⟨v3, dx3, A3, LA3, rfl, vs3, as3⟩
      rw [e, ← nI_i1 k] at this
      rw [q31, q32]
      exact this
    · refine Rn.step (pc' := 74) rfl rfl ?_
      refine Rn.getf (pc' := 77) rfl rfl rfl rfl rfl ?_
      refine Rn.step (pc' := 79) rfl rfl ?_
      refine Rn.icmp_lt (pc1 := 118) (pc2 := 82) rfl rfl rfl (fun h79 => ?_) (fun h79 => ?_)
      · refine Rn.step (pc' := 121) rfl rfl ?_
        refine Rn.step (pc' := 45) rfl rfl ?_
        rw [q31] at h79
        have e : rlE (evf v rl Bn Fn Wn) s N (k + 1) = rlE (evf v rl Bn Fn Wn) s N k := by rw [rlE_s, if_pos ⟨h70, Or.inl h79⟩]
        have := l_M_relay (y := y) hl hw hv hru hd hN1 hN hK hK2 (k + 1) (by omega) ⟨v3, dx3, A3, LA3, rfl, vs3, as3⟩
        rw [e, ← nI_i1 k] at this
        exact this
      · refine Rn.step (pc' := 83) rfl rfl ?_
        refine Rn.getf (pc' := 86) rfl rfl rfl rfl rfl ?_
        refine Rn.step (pc' := 88) rfl rfl ?_
        refine Rn.icmp_ne (pc1 := 103) (pc2 := 91) rfl rfl rfl (fun h88 => ?_) (fun h88 => ?_)
        · refine Rn.step (pc' := 105) rfl rfl ?_
          refine Rn.step (pc' := 106) rfl rfl ?_
          refine Rn.step (pc' := 107) rfl rfl ?_
          refine Rn.getf (pc' := 110) rfl rfl rfl rfl rfl ?_
          refine Rn.step (pc' := 112) rfl rfl ?_
          refine Rn.step (pc' := 113) rfl rfl ?_
          refine Rn.getf (pc' := 116) rfl rfl rfl rfl rfl ?_
          refine Rn.step (pc' := 118) rfl rfl ?_
          refine Rn.step (pc' := 121) rfl rfl ?_
          refine Rn.step (pc' := 45) rfl rfl ?_
          rw [q31] at h79
          rw [q31] at h88
          have e : rlE (evf v rl Bn Fn Wn) s N (k + 1) = (some k, (rrE (evf v rl Bn Fn Wn) s N k N).2, mCs (rrE (evf v rl Bn Fn Wn) s N k N).1 Bn) := by rw [rlE_s, if_neg (fun z => z.2.elim h79 (fun y => h88 y.1))]
          have := l_M_relay (y := y) hl hw hv hru hd hN1 hN hK hK2 (k + 1) (by omega) ⟨v3, dx3, A3, LA3, rfl, vs3, as3⟩
          rw [e, ← nI_i1 k] at this
          rw [q31, q32]
          exact this
        · refine Rn.step (pc' := 92) rfl rfl ?_
          refine Rn.getf (pc' := 95) rfl rfl rfl rfl rfl ?_
          refine Rn.step (pc' := 97) rfl rfl ?_
          refine Rn.icmp_lt (pc1 := 103) (pc2 := 100) rfl rfl rfl (fun h97 => ?_) (fun h97 => ?_)
          · refine Rn.step (pc' := 105) rfl rfl ?_
            refine Rn.step (pc' := 106) rfl rfl ?_
            refine Rn.step (pc' := 107) rfl rfl ?_
            refine Rn.getf (pc' := 110) rfl rfl rfl rfl rfl ?_
            refine Rn.step (pc' := 112) rfl rfl ?_
            refine Rn.step (pc' := 113) rfl rfl ?_
            refine Rn.getf (pc' := 116) rfl rfl rfl rfl rfl ?_
            refine Rn.step (pc' := 118) rfl rfl ?_
            refine Rn.step (pc' := 121) rfl rfl ?_
            refine Rn.step (pc' := 45) rfl rfl ?_
            rw [q31] at h79
            rw [q31] at h88
            rw [q32] at h97
            have e : rlE (evf v rl Bn Fn Wn) s N (k + 1) = (some k, (rrE (evf v rl Bn Fn Wn) s N k N).2, mCs (rrE (evf v rl Bn Fn Wn) s N k N).1 Bn) := by rw [rlE_s, if_neg (fun z => z.2.elim h79 (fun y => y.2 h97))]
            have := l_M_relay (y := y) hl hw hv hru hd hN1 hN hK hK2 (k + 1) (by omega) ⟨v3, dx3, A3, LA3, rfl, vs3, as3⟩
            rw [e, ← nI_i1 k] at this
            rw [q31, q32]
            exact this
          · refine Rn.step (pc' := 118) rfl rfl ?_
            refine Rn.step (pc' := 121) rfl rfl ?_
            refine Rn.step (pc' := 45) rfl rfl ?_
            rw [q31] at h79
            rw [q31] at h88
            rw [q32] at h97
            have e : rlE (evf v rl Bn Fn Wn) s N (k + 1) = rlE (evf v rl Bn Fn Wn) s N k := by rw [rlE_s, if_pos ⟨h70, Or.inr ⟨h88, h97⟩⟩]
            have := l_M_relay (y := y) hl hw hv hru hd hN1 hN hK hK2 (k + 1) (by omega) ⟨v3, dx3, A3, LA3, rfl, vs3, as3⟩
            rw [e, ← nI_i1 k] at this
            exact this
termination_by K - k
theorem c_M_relay {d P Bn Fn Wn : Nat} {rl : xRl} (hi : LI P Bn Fn Wn s) (hv : v 24 = 0 ∨ v 24 = 1) (hru : mRu v A rl) (hd : 8 ≤ d) (x y : Int32) : Cl d j_M_relay [.ref 50, .int x, .int y] (MS m0 v dx A LA s) (fun r m2 => (gRe s x y → r = some (.int (-3)) ∧ MG m0 v A s m2) ∧ (¬ gRe s x y → r = some (.int (aRe Bn x.toNatClampNeg (rlE (evf v rl Bn Fn Wn) s x.toNatClampNeg ((Bn + 1) ^ x.toNatClampNeg)) y)) ∧ MG m0 v A s m2)) := by
  show Rn d j_M_relay 0 _ _ _ _
  refine Rn.step (pc' := 1) rfl rfl ?_
  refine Rn.vi (pc' := 4) rfl (by decide) (by omega) rfl rfl rfl (c_M_isLane) ?_
  refine Rn.ifp_eq (pc1 := 31) (pc2 := 7) rfl rfl rfl (fun h4 => ?_) (fun h4 => ?_)
  · refine Rn.iconst (v := (-3)) (pc' := 33) rfl (by decide) rfl ?_
    exact Rn.iret rfl (rfl) (⟨fun _ => ⟨rfl, MG.rfl _ _ _ _ _ _⟩, fun hg => absurd (Or.inl h4) hg⟩)
  · refine Rn.step (pc' := 8) rfl rfl ?_
    refine Rn.i2l (pc' := 9) rfl rfl ?_
    refine Rn.ldc2 (v := 1) (pc' := 10) rfl (by decide) rfl ?_
    refine Rn.ldc2 (v := 4) (pc' := 13) rfl (by decide) rfl ?_
    refine Rn.si (pc' := 16) rfl (by decide) (by omega) rfl rfl (c_M_inI x 1 4 rfl rfl) ?_
    refine Rn.ifp_eq (pc1 := 31) (pc2 := 19) rfl rfl rfl (fun h16 => ?_) (fun h16 => ?_)
    · refine Rn.iconst (v := (-3)) (pc' := 33) rfl (by decide) rfl ?_
      exact Rn.iret rfl (rfl) (⟨fun _ => ⟨rfl, MG.rfl _ _ _ _ _ _⟩, fun hg => absurd (Or.inr (Or.inl h16)) hg⟩)
    · refine Rn.step (pc' := 20) rfl rfl ?_
      refine Rn.i2l (pc' := 21) rfl rfl ?_
      refine Rn.ldc2 (v := 0) (pc' := 22) rfl (by decide) rfl ?_
      refine Rn.ldc2 (v := 4) (pc' := 25) rfl (by decide) rfl ?_
      refine Rn.si (pc' := 28) rfl (by decide) (by omega) rfl rfl (c_M_inI y 0 4 rfl rfl) ?_
      refine Rn.ifp_ne (pc1 := 34) (pc2 := 31) rfl rfl rfl (fun h28 => ?_) (fun h28 => ?_)
      · obtain ⟨hl, hw⟩ := hi.lane h4
        obtain ⟨N, hN, rfl⟩ := xN (n := 4) (by decide) (by decide) h16
        have hN1 : 1 ≤ N := by
          have := (nI_leI (a := 1) (b := N) (by omega) (by omega)).mp h16.1
          omega
        have eN : (nI N).toNatClampNeg = N := nI_clamp (by omega)
        refine Rn.iconst (v := (-1)) (pc' := 35) rfl (by decide) rfl ?_
        refine Rn.step (pc' := 36) rfl rfl ?_
        refine Rn.iconst (v := 0) (pc' := 37) rfl (by decide) rfl ?_
        refine Rn.step (pc' := 39) rfl rfl ?_
        refine Rn.iconst (v := 0) (pc' := 40) rfl (by decide) rfl ?_
        refine Rn.step (pc' := 42) rfl rfl ?_
        refine Rn.iconst (v := 0) (pc' := 43) rfl (by decide) rfl ?_
        refine Rn.step (pc' := 45) rfl rfl ?_
        refine (l_M_relay (N := N) (y := y) hl hw hv hru (by omega) ⟨hN1, Nat.pow_pos (by omega), h28⟩ hN rfl (pw_b hl.b6 hN) 0 (Nat.zero_le _) (MG.rfl _ _ _ _ _ _)).conseq ?_
        rintro r m2 ⟨rfl, h9⟩
        exact ⟨fun hg => absurd hg (fun z => z.elim (fun c => c h4) (fun z => z.elim (fun c => c h16) (fun c => c h28))), fun _ => ⟨by rw [eN], h9⟩⟩
      · refine Rn.iconst (v := (-3)) (pc' := 33) rfl (by decide) rfl ?_
        exact Rn.iret rfl (rfl) (⟨fun _ => ⟨rfl, MG.rfl _ _ _ _ _ _⟩, fun hg => absurd (Or.inr (Or.inr (h28))) hg⟩)
def gPr (s : Nat → Int32) (n p b : Int32) : Prop := ¬ (0 ≤ n ∧ n ≤ 47) ∨ ¬ isPl s p ∨ ¬ (0 ≤ b ∧ b ≤ 2) ∨ s 150 = 10
def prS (s : Nat → Int32) (K : Nat) (n p b z : Int32) : Nat → Int32 := upd (upd (upd (upd (upd s (110 + 4 * K) n) (110 + 4 * K + 1) p) (110 + 4 * K + 2) b) (110 + 4 * K + 3) (if z = 0 then 0 else 1)) 150 (nI (K + 1))
theorem c_M_print {d K : Nat} (hd : 1 ≤ d) (hK : s 150 = nI K) (hK10 : K ≤ 10) (n p b z : Int32) : Cl d j_M_print [.ref 50, .int n, .int p, .int b, .int z] (MS m0 v dx A LA s) (fun r m2 => (n = -1 → r = some (.int 0) ∧ m2 = MS m0 v dx A LA (upd s 150 0)) ∧ (¬ n = -1 → (gPr s n p b → r = some (.int (-2)) ∧ m2 = MS m0 v dx A LA s) ∧ (¬ gPr s n p b → r = some (.int (nI (K + 1))) ∧ m2 = MS m0 v dx A LA (prS s K n p b z)))) := by
  show Rn d j_M_print 0 _ _ _ _
  refine Rn.step (pc' := 1) rfl rfl ?_
  refine Rn.iconst (v := (-1)) (pc' := 2) rfl (by decide) rfl ?_
  refine Rn.icmp_ne (pc1 := 16) (pc2 := 5) rfl rfl rfl (fun h2 => ?_) (fun h2 => ?_)
  · refine Rn.step (pc' := 17) rfl rfl ?_
    refine Rn.i2l (pc' := 18) rfl rfl ?_
    refine Rn.ldc2 (v := 0) (pc' := 19) rfl (by decide) rfl ?_
    refine Rn.ldc2 (v := 47) (pc' := 22) rfl (by decide) rfl ?_
    refine Rn.si (pc' := 25) rfl (by decide) (by omega) rfl rfl (c_M_inI n 0 47 rfl rfl) ?_
    refine Rn.ifp_eq (pc1 := 61) (pc2 := 28) rfl rfl rfl (fun h25 => ?_) (fun h25 => ?_)
    · refine Rn.iconst (v := (-2)) (pc' := 63) rfl (by decide) rfl ?_
      exact Rn.iret rfl (rfl) (⟨fun z => absurd z h2, fun _ => ⟨fun _ => ⟨rfl, rfl⟩, fun hg => absurd (Or.inl h25) hg⟩⟩)
    · refine Rn.step (pc' := 29) rfl rfl ?_
      refine Rn.step (pc' := 30) rfl rfl ?_
      refine Rn.vi (pc' := 33) rfl (by decide) (by omega) rfl rfl rfl (c_M_isPlace p) ?_
      refine Rn.ifp_eq (pc1 := 61) (pc2 := 36) rfl rfl rfl (fun h33 => ?_) (fun h33 => ?_)
      · refine Rn.iconst (v := (-2)) (pc' := 63) rfl (by decide) rfl ?_
        exact Rn.iret rfl (rfl) (⟨fun z => absurd z h2, fun _ => ⟨fun _ => ⟨rfl, rfl⟩, fun hg => absurd (Or.inr (Or.inl h33)) hg⟩⟩)
      · refine Rn.step (pc' := 37) rfl rfl ?_
        refine Rn.i2l (pc' := 38) rfl rfl ?_
        refine Rn.ldc2 (v := 0) (pc' := 39) rfl (by decide) rfl ?_
        refine Rn.ldc2 (v := 2) (pc' := 42) rfl (by decide) rfl ?_
        refine Rn.si (pc' := 45) rfl (by decide) (by omega) rfl rfl (c_M_inI b 0 2 rfl rfl) ?_
        refine Rn.ifp_eq (pc1 := 61) (pc2 := 48) rfl rfl rfl (fun h45 => ?_) (fun h45 => ?_)
        · refine Rn.iconst (v := (-2)) (pc' := 63) rfl (by decide) rfl ?_
          exact Rn.iret rfl (rfl) (⟨fun z => absurd z h2, fun _ => ⟨fun _ => ⟨rfl, rfl⟩, fun hg => absurd (Or.inr (Or.inr (Or.inl h45))) hg⟩⟩)
        · refine Rn.step (pc' := 49) rfl rfl ?_
          refine Rn.getf (pc' := 52) rfl rfl rfl rfl rfl ?_
          refine Rn.iconst (v := 150) (pc' := 55) rfl (by decide) rfl ?_
          refine Rn.sald (k := 150) (pc' := 56) rfl rfl (by simp only [nI_lit, nI_add, pk_mul]) (by omega) (by decide) rfl ?_
          refine Rn.iconst (v := 10) (pc' := 58) rfl (by decide) rfl ?_
          refine Rn.icmp_ne (pc1 := 64) (pc2 := 61) rfl rfl rfl (fun h58 => ?_) (fun h58 => ?_)
          · have hK2 : K < 10 := by
              have : K ≠ 10 := fun z => h58 (by rw [hK, z]; rfl)
              omega
            refine Rn.iconst (v := 110) (pc' := 66) rfl (by decide) rfl ?_
            refine Rn.iconst (v := 4) (pc' := 67) rfl (by decide) rfl ?_
            refine Rn.step (pc' := 68) rfl rfl ?_
            refine Rn.getf (pc' := 71) rfl rfl rfl rfl rfl ?_
            refine Rn.iconst (v := 150) (pc' := 74) rfl (by decide) rfl ?_
            refine Rn.sald (k := 150) (pc' := 75) rfl rfl (by simp only [nI_lit, nI_add, pk_mul]) (by omega) (by decide) rfl ?_
            refine Rn.imul (pc' := 76) rfl rfl ?_
            refine Rn.iadd (pc' := 77) rfl rfl ?_
            refine Rn.step (pc' := 79) rfl rfl ?_
            refine Rn.step (pc' := 80) rfl rfl ?_
            refine Rn.getf (pc' := 83) rfl rfl rfl rfl rfl ?_
            refine Rn.step (pc' := 85) rfl rfl ?_
            refine Rn.step (pc' := 86) rfl rfl ?_
            refine Rn.sast (k := 110 + 4 * K) (pc' := 87) rfl rfl (by rw [hK]; simp only [nI_lit, nI_add, pk_mul]) (by omega) (by decide) rfl ?_
            refine Rn.step (pc' := 88) rfl rfl ?_
            refine Rn.getf (pc' := 91) rfl rfl rfl rfl rfl ?_
            refine Rn.step (pc' := 93) rfl rfl ?_
            refine Rn.iconst (v := 1) (pc' := 94) rfl (by decide) rfl ?_
            refine Rn.iadd (pc' := 95) rfl rfl ?_
            refine Rn.step (pc' := 96) rfl rfl ?_
            refine Rn.sast (k := 110 + 4 * K + 1) (pc' := 97) rfl rfl (by rw [hK]; simp only [nI_lit, nI_add, pk_mul]) (by omega) (by decide) rfl ?_
            refine Rn.step (pc' := 98) rfl rfl ?_
            refine Rn.getf (pc' := 101) rfl rfl rfl rfl rfl ?_
            refine Rn.step (pc' := 103) rfl rfl ?_
            refine Rn.iconst (v := 2) (pc' := 104) rfl (by decide) rfl ?_
            refine Rn.iadd (pc' := 105) rfl rfl ?_
            refine Rn.step (pc' := 106) rfl rfl ?_
            refine Rn.sast (k := 110 + 4 * K + 2) (pc' := 107) rfl rfl (by rw [hK]; simp only [nI_lit, nI_add, pk_mul]) (by omega) (by decide) rfl ?_
            refine Rn.step (pc' := 108) rfl rfl ?_
            refine Rn.getf (pc' := 111) rfl rfl rfl rfl rfl ?_
            refine Rn.step (pc' := 113) rfl rfl ?_
            refine Rn.iconst (v := 3) (pc' := 114) rfl (by decide) rfl ?_
            refine Rn.iadd (pc' := 115) rfl rfl ?_
            refine Rn.step (pc' := 117) rfl rfl ?_
            refine Rn.ifc_eq (pc1 := 124) (pc2 := 120) rfl rfl rfl (fun h117 => ?_) (fun h117 => ?_)
            · refine Rn.iconst (v := 0) (pc' := 125) rfl (by decide) rfl ?_
              refine Rn.sast (k := 110 + 4 * K + 3) (pc' := 126) rfl rfl (by rw [hK]; simp only [nI_lit, nI_add, pk_mul]) (by omega) (by decide) rfl ?_
              refine Rn.step (pc' := 127) rfl rfl ?_
              refine Rn.getf (pc' := 130) rfl rfl rfl rfl rfl ?_
              refine Rn.iconst (v := 150) (pc' := 133) rfl (by decide) rfl ?_
              refine Rn.step (pc' := 134) rfl rfl ?_
              refine Rn.sald (k := 150) (pc' := 135) rfl rfl (by simp only [nI_lit, nI_add, pk_mul]) (by omega) (by decide) rfl ?_
              refine Rn.iconst (v := 1) (pc' := 136) rfl (by decide) rfl ?_
              refine Rn.iadd (pc' := 137) rfl rfl ?_
              refine Rn.sast (k := 150) (pc' := 138) rfl rfl (by simp only [nI_lit, nI_add, pk_mul]) (by omega) (by decide) rfl ?_
              refine Rn.step (pc' := 139) rfl rfl ?_
              refine Rn.getf (pc' := 142) rfl rfl rfl rfl rfl ?_
              refine Rn.iconst (v := 150) (pc' := 145) rfl (by decide) rfl ?_
              refine Rn.sald (k := 150) (pc' := 146) rfl rfl (by simp only [nI_lit, nI_add, pk_mul]) (by omega) (by decide) rfl ?_
              refine Rn.iret rfl (rfl) (⟨fun z => absurd z h2, fun _ => ⟨fun hg => absurd hg (fun z => z.elim (fun c => c h25) (fun z => z.elim (fun c => c h33) (fun z => z.elim (fun c => c h45) h58))), fun _ => ⟨?_, ?_⟩⟩⟩)
              · rw [upd_s, upd_n _ _ (by omega), upd_n _ _ (by omega), upd_n _ _ (by omega), upd_n _ _ (by omega), hK, nI_1]
              · rw [upd_n _ _ (show (150 : Nat) ≠ 110 + 4 * K + 3 by omega), upd_n _ _ (show (150 : Nat) ≠ 110 + 4 * K + 2 by omega), upd_n _ _ (show (150 : Nat) ≠ 110 + 4 * K + 1 by omega), upd_n _ _ (show (150 : Nat) ≠ 110 + 4 * K by omega), hK, nI_1]
                unfold prS
                first | rw [if_pos h117] | rw [if_neg h117]
            · refine Rn.iconst (v := 1) (pc' := 121) rfl (by decide) rfl ?_
              refine Rn.step (pc' := 125) rfl rfl ?_
              refine Rn.sast (k := 110 + 4 * K + 3) (pc' := 126) rfl rfl (by rw [hK]; simp only [nI_lit, nI_add, pk_mul]) (by omega) (by decide) rfl ?_
              refine Rn.step (pc' := 127) rfl rfl ?_
              refine Rn.getf (pc' := 130) rfl rfl rfl rfl rfl ?_
              refine Rn.iconst (v := 150) (pc' := 133) rfl (by decide) rfl ?_
              refine Rn.step (pc' := 134) rfl rfl ?_
              refine Rn.sald (k := 150) (pc' := 135) rfl rfl (by simp only [nI_lit, nI_add, pk_mul]) (by omega) (by decide) rfl ?_
              refine Rn.iconst (v := 1) (pc' := 136) rfl (by decide) rfl ?_
              refine Rn.iadd (pc' := 137) rfl rfl ?_
              refine Rn.sast (k := 150) (pc' := 138) rfl rfl (by simp only [nI_lit, nI_add, pk_mul]) (by omega) (by decide) rfl ?_
              refine Rn.step (pc' := 139) rfl rfl ?_
              refine Rn.getf (pc' := 142) rfl rfl rfl rfl rfl ?_
              refine Rn.iconst (v := 150) (pc' := 145) rfl (by decide) rfl ?_
              refine Rn.sald (k := 150) (pc' := 146) rfl rfl (by simp only [nI_lit, nI_add, pk_mul]) (by omega) (by decide) rfl ?_
              refine Rn.iret rfl (rfl) (⟨fun z => absurd z h2, fun _ => ⟨fun hg => absurd hg (fun z => z.elim (fun c => c h25) (fun z => z.elim (fun c => c h33) (fun z => z.elim (fun c => c h45) h58))), fun _ => ⟨?_, ?_⟩⟩⟩)
              · rw [upd_s, upd_n _ _ (by omega), upd_n _ _ (by omega), upd_n _ _ (by omega), upd_n _ _ (by omega), hK, nI_1]
              · rw [upd_n _ _ (show (150 : Nat) ≠ 110 + 4 * K + 3 by omega), upd_n _ _ (show (150 : Nat) ≠ 110 + 4 * K + 2 by omega), upd_n _ _ (show (150 : Nat) ≠ 110 + 4 * K + 1 by omega), upd_n _ _ (show (150 : Nat) ≠ 110 + 4 * K by omega), hK, nI_1]
                unfold prS
                first | rw [if_pos h117] | rw [if_neg h117]
          · refine Rn.iconst (v := (-2)) (pc' := 63) rfl (by decide) rfl ?_
            exact Rn.iret rfl (rfl) (⟨fun z => absurd z h2, fun _ => ⟨fun _ => ⟨rfl, rfl⟩, fun hg => absurd (Or.inr (Or.inr (Or.inr (h58)))) hg⟩⟩)
  · refine Rn.step (pc' := 6) rfl rfl ?_
    refine Rn.getf (pc' := 9) rfl rfl rfl rfl rfl ?_
    refine Rn.iconst (v := 150) (pc' := 12) rfl (by decide) rfl ?_
    refine Rn.iconst (v := 0) (pc' := 13) rfl (by decide) rfl ?_
    refine Rn.sast (k := 150) (pc' := 14) rfl rfl (by simp only [nI_lit, nI_add, pk_mul]) (by omega) (by decide) rfl ?_
    refine Rn.iconst (v := 0) (pc' := 15) rfl (by decide) rfl ?_
    exact Rn.iret rfl (rfl) (⟨fun _ => ⟨rfl, rfl⟩, fun z => absurd h2 z⟩)
end MF
