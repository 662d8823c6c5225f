/-! THE CLASS: a second pair, winters. -/
section CH
variable {m0 : xM} {F I : Nat → Nat → Int32} {L : Nat → Nat → Int64} {R : Nat → Nat → Option Nat} {H : Value} {s w : Nat → Int32} {o : Nat} {gg : Prop}
theorem CW_id : CWm m0 F I L R H o (I (o + 1)) = CC m0 F I L R H := by
  unfold CWm
  rw [up_id]
theorem c_W_bits8 {d Bn : Nat} (hr : WR gg Bn s (I 9)) (x : Int32) : Cl d j_World_bootBitsOf [.ref 8, .int x] (CC m0 F I L R H) (Pi (mB1 s x) (CC m0 F I L R H)) := by
  have h := c_W_bootBitsOf (d := d) (m0 := m0) (F := F) (I := I) (L := L) (R := R) (H := H) (o := 8) (by unfold isW; omega) hr x
  rw [show CWm m0 F I L R H 8 (I 9) = CC m0 F I L R H from CW_id] at h
  exact h
def tF0 (F F1 : Nat → Nat → Int32) : Prop := ∀ k, k ≠ 24 → k ≠ 14 → F1 k = F k
theorem tF0.wh {F F1 : Nat → Nat → Int32} (h : tF0 F F1) {a : Nat} (ha : a = 24 ∨ a = 14) (f : Nat → Int32) : tF0 F (va_up F1 a f) := fun k h1 h2 => (up_ne F1 f (by omega)).trans (h k h1 h2)
theorem HB.sc {P : Nat} {E : xEv} {s : Nat → Int32} {F I F1 I1 : Nat → Nat → Int32} {H : Value} {m0 : xM} (h : HB P E s F I H m0) (hF : tF0 F F1) (hI : tI I I1) {x : Int32} (hx : F1 14 4 = x) : HB P (eSec E x) s F1 I1 H m0 := by
  refine ⟨?_, h.wl, h.wx, h.wd, hx, h.fd, h.ru⟩
  unfold LR
  rw [hF 17 (by omega) (by omega), hI 18 (by omega) (by omega) (by omega), hI 19 (by omega) (by omega) (by omega), hI 20 (by omega) (by omega) (by omega), hI 21 (by omega) (by omega) (by omega), hI 22 (by omega) (by omega) (by omega)]
  exact h.lr
theorem LR.t0 {P Bn Fn Wn : Nat} {s : Nat → Int32} {F I F1 I1 : Nat → Nat → Int32} (h : LR P Bn Fn Wn s F I) (hF : tF0 F F1) (hI : tI I I1) : LR P Bn Fn Wn s F1 I1 := by
  unfold LR
  rw [hF 17 (by omega) (by omega), hI 18 (by omega) (by omega) (by omega), hI 19 (by omega) (by omega) (by omega), hI 20 (by omega) (by omega) (by omega), hI 21 (by omega) (by omega) (by omega), hI 22 (by omega) (by omega) (by omega)]
  exact h
theorem l_T_sec {d P N : Nat} {E : xEv} (hfd : E.fd = 0) (hh : HB P E s F I H m0) (hr : WR gg E.Bn s (I 9)) (hD : DB s 600) (hN : N < 199) (h4 : F 14 4 = -1) (hd : 7 ≤ d) {x : Int32} (k : Nat) (hk : k ≤ E.Bn) (x9 : Value) {m : xM} (hm : ∃ F1 I1 L1, m = CC m0 F1 I1 L1 R H ∧ tF0 F F1 ∧ tI I I1) : Rn d j_Trials_bySecond 27 [.ref 24, .ref 14, .ref 8, .int x, .int (nI N), .int (oP E s N), .int (sdE E s N x k).2, .int (sdE E s N x k).1, .int (nI k), x9] [] m (fun r m2 => r = some (.int (sdE E s N x E.Bn).2) ∧ ∃ F1 I1 L1, m2 = CC m0 F1 I1 L1 R H ∧ tF F F1 ∧ tI I I1 ∧ F1 24 3 = (sdE E s N x E.Bn).1) := by
  obtain ⟨F1, I1, L1, rfl, fs1, is1⟩ := hm
  have hb6 := hh.wl.b6
  refine Rn.step (pc' := 29) rfl rfl ?_
  refine Rn.step (pc' := 30) rfl rfl ?_
  refine Rn.getf (pc' := 33) rfl rfl rfl rfl rfl ?_
  refine Rn.getf (pc' := 36) rfl rfl rfl rfl rfl ?_
  refine Rn.icmp_ge (pc1 := 117) (pc2 := 39) rfl rfl rfl (fun h36 => ?_) (fun h36 => ?_)
  · obtain rfl := nI_up (by omega) hk (by rw [(hh.lr.t0 fs1 is1).b, hh.wl.b] at h36; exact h36)
    refine Rn.step (pc' := 118) rfl rfl ?_
    refine Rn.iconst (v := (-1)) (pc' := 119) rfl (by decide) rfl ?_
    refine Rn.cput (pc' := 122) rfl rfl rfl rfl rfl (by decide) rfl ?_
    refine Rn.step (pc' := 123) rfl rfl ?_
    refine Rn.step (pc' := 125) rfl rfl ?_
    refine Rn.cput (pc' := 128) rfl rfl rfl rfl rfl (by decide) rfl ?_
    refine Rn.step (pc' := 130) rfl rfl ?_
    exact Rn.iret rfl (rfl) (⟨rfl, _, I1, L1, rfl, ⟨(fs1.wh (Or.inr rfl) _).wh (Or.inl rfl) _, h4.symm⟩, is1, rfl⟩)
  · have hk2 := nI_dn (by omega) hk (by rw [(hh.lr.t0 fs1 is1).b, hh.wl.b] at h36; exact h36)
    refine Rn.step (pc' := 40) rfl rfl ?_
    refine Rn.getf (pc' := 43) rfl rfl rfl rfl rfl ?_
    refine Rn.getf (pc' := 46) rfl rfl rfl rfl rfl ?_
    refine Rn.step (pc' := 48) rfl rfl ?_
    refine Rn.cald (k := k) (pc' := 49) rfl rfl (by simp only [nI_lit, nI_add, pk_mul, Nat.zero_add]) (by omega) ((hh.lr.t0 fs1 is1).si k hk2) (by decide) rfl ?_
    refine Rn.step (pc' := 50) rfl rfl ?_
    refine Rn.icmp_gt (pc1 := 111) (pc2 := 53) rfl rfl rfl (fun h50 => ?_) (fun h50 => ?_)
    · refine Rn.step (pc' := 114) rfl rfl ?_
      refine Rn.step (pc' := 27) rfl rfl ?_
      have e : sdE E s N x (k + 1) = sdE E s N x k := by rw [sdE_s, if_pos (Or.inr h50)]
      have := l_T_sec (x := x) hfd hh hr hD hN h4 hd (k + 1) (by omega) x9 ⟨F1, I1, L1, rfl, fs1, is1⟩
      rw [e, ← nI_i1 k] at this
      exact this
    · refine Rn.step (pc' := 54) rfl rfl ?_
      refine Rn.step (pc' := 56) rfl rfl ?_
      refine Rn.vi (pc' := 59) rfl (by decide) (by omega) rfl rfl rfl (c_W_bits8 (gg := gg) (s := s) (Bn := E.Bn) (by rw [is1 9 (by omega) (by omega) (by omega)]; exact hr) (nI k)) ?_
      refine Rn.ifc_eq (pc1 := 65) (pc2 := 62) rfl rfl rfl (fun h59 => ?_) (fun h59 => ?_)
      · refine Rn.step (pc' := 66) rfl rfl ?_
        refine Rn.step (pc' := 68) rfl rfl ?_
        refine Rn.cput (pc' := 71) rfl rfl rfl rfl rfl (by decide) rfl ?_
        refine Rn.step (pc' := 72) rfl rfl ?_
        refine Rn.getf (pc' := 75) rfl rfl rfl rfl rfl ?_
        refine Rn.step (pc' := 76) rfl rfl ?_
        refine Rn.vv (pc' := 79) rfl (by decide) (by omega) rfl rfl rfl (c_W_copyFrom (o := 25) (o2 := 8) (by omega) (by unfold isW; omega) (by unfold isW; omega)) ?_
        refine Rn.step (pc' := 80) rfl rfl ?_
        refine Rn.step (pc' := 81) rfl rfl ?_
        refine Rn.step (pc' := 83) rfl rfl ?_
        refine Rn.callV (pc' := 86) rfl (by decide) (by omega) rfl rfl rfl (c_T_earn (E := eSec E (nI k)) (gg := gg) hfd (hh.sc (fs1.wh (Or.inr rfl) _) is1 rfl) (hD.up (by omega)) hN (by omega) (WR.cpy (by rw [is1 9 (by omega) (by omega) (by omega)]; exact hr) hb6)) (fun r_ m_ hc_ => ?_)
        obtain ⟨rfl, z2, L2, w3, rfl, -⟩ := hc_
        have fs9 : tF0 F (fzF (va_up F1 14 (upd (F1 14) 4 (nI k))) z2) := (fs1.wh (Or.inr rfl) _).wh (Or.inr rfl) _
        refine Rn.step (pc' := 88) rfl rfl ?_
        refine Rn.isub (pc' := 89) rfl rfl ?_
        refine Rn.step (pc' := 91) rfl rfl ?_
        refine Rn.step (pc' := 93) rfl rfl ?_
        refine Rn.ifc_lt (pc1 := 103) (pc2 := 96) rfl rfl rfl (fun h93 => ?_) (fun h93 => ?_)
        · refine Rn.step (pc' := 105) rfl rfl ?_
          refine Rn.step (pc' := 107) rfl rfl ?_
          refine Rn.step (pc' := 109) rfl rfl ?_
          refine Rn.step (pc' := 111) rfl rfl ?_
          refine Rn.step (pc' := 114) rfl rfl ?_
          refine Rn.step (pc' := 27) rfl rfl ?_
          have e : sdE E s N x (k + 1) = (nI k, oP (eSec E (nI k)) s N - oP E s N) := by rw [sdE_s, if_neg (fun z => z.elim (fun c => c h59) h50), if_neg (fun z => z.1 h93)]
          have := l_T_sec (x := x) hfd hh hr hD hN h4 hd (k + 1) (by omega) (.int (oP (eSec E (nI k)) s N - oP E s N)) ⟨_, _, L2, rfl, fs9, is1.up (Or.inl rfl) w3⟩
          rw [e, ← nI_i1 k] at this
          exact this
        · refine Rn.step (pc' := 98) rfl rfl ?_
          refine Rn.step (pc' := 100) rfl rfl ?_
          refine Rn.icmp_le (pc1 := 111) (pc2 := 103) rfl rfl rfl (fun h100 => ?_) (fun h100 => ?_)
          · refine Rn.step (pc' := 114) rfl rfl ?_
            refine Rn.step (pc' := 27) rfl rfl ?_
            have e : sdE E s N x (k + 1) = sdE E s N x k := by rw [sdE_s, if_neg (fun z => z.elim (fun c => c h59) h50), if_pos ⟨h93, Int32.not_lt.mpr h100⟩]
            have := l_T_sec (x := x) hfd hh hr hD hN h4 hd (k + 1) (by omega) (.int (oP (eSec E (nI k)) s N - oP E s N)) ⟨_, _, L2, rfl, fs9, is1.up (Or.inl rfl) w3⟩
            rw [e, ← nI_i1 k] at this
            exact this
          · refine Rn.step (pc' := 105) rfl rfl ?_
            refine Rn.step (pc' := 107) rfl rfl ?_
            refine Rn.step (pc' := 109) rfl rfl ?_
            refine Rn.step (pc' := 111) rfl rfl ?_
            refine Rn.step (pc' := 114) rfl rfl ?_
            refine Rn.step (pc' := 27) rfl rfl ?_
            have e : sdE E s N x (k + 1) = (nI k, oP (eSec E (nI k)) s N - oP E s N) := by rw [sdE_s, if_neg (fun z => z.elim (fun c => c h59) h50), if_neg (fun z => z.2 (Int32.not_le.mp h100))]
            have := l_T_sec (x := x) hfd hh hr hD hN h4 hd (k + 1) (by omega) (.int (oP (eSec E (nI k)) s N - oP E s N)) ⟨_, _, L2, rfl, fs9, is1.up (Or.inl rfl) w3⟩
            rw [e, ← nI_i1 k] at this
            exact this
      · refine Rn.step (pc' := 111) rfl rfl ?_
        refine Rn.step (pc' := 114) rfl rfl ?_
        refine Rn.step (pc' := 27) rfl rfl ?_
        have e : sdE E s N x (k + 1) = sdE E s N x k := by rw [sdE_s, if_pos (Or.inl h59)]
        have := l_T_sec (x := x) hfd hh hr hD hN h4 hd (k + 1) (by omega) x9 ⟨F1, I1, L1, rfl, fs1, is1⟩
        rw [e, ← nI_i1 k] at this
        exact this
termination_by E.Bn - k
theorem c_T_sec {d P N : Nat} {E : xEv} (hfd : E.fd = 0) (hh : HB P E s F I H m0) (hr : WR gg E.Bn s (I 9)) (hD : DB s 600) (hN : N < 199) (h4 : F 14 4 = -1) (hd : 7 ≤ d) (x : Int32) {m : xM} (hm : ∃ F1 I1 L1, m = CC m0 F1 I1 L1 R H ∧ tF F F1 ∧ tI I I1) : Cl d j_Trials_bySecond [.ref 24, .ref 14, .ref 8, .int x, .int (nI N)] m (fun r m2 => r = some (.int (sdE E s N x E.Bn).2) ∧ ∃ F1 I1 L1, m2 = CC m0 F1 I1 L1 R H ∧ tF F F1 ∧ tI I I1 ∧ F1 24 3 = (sdE E s N x E.Bn).1) := by
  obtain ⟨F1, I1, L1, rfl, fs1, is1⟩ := hm
  have hb6 := hh.wl.b6
  show Rn d j_Trials_bySecond 0 _ _ _ _
  refine Rn.step (pc' := 1) rfl rfl ?_
  refine Rn.getf (pc' := 4) rfl rfl rfl rfl rfl ?_
  refine Rn.step (pc' := 5) rfl rfl ?_
  refine Rn.vv (pc' := 8) rfl (by decide) (by omega) rfl rfl rfl (c_W_copyFrom (o := 25) (o2 := 8) (by omega) (by unfold isW; omega) (by unfold isW; omega)) ?_
  refine Rn.step (pc' := 9) rfl rfl ?_
  refine Rn.step (pc' := 10) rfl rfl ?_
  refine Rn.step (pc' := 12) rfl rfl ?_
  refine Rn.callV (pc' := 15) rfl (by decide) (by omega) rfl rfl rfl (c_T_earn (gg := gg) hfd (hh.t fs1 is1) (hD.up (by omega)) hN (by omega) (WR.cpy (by rw [is1 9 (by omega) (by omega) (by omega)]; exact hr) hb6)) (fun r_ m_ hc_ => ?_)
  obtain ⟨rfl, z2, L2, w3, rfl, -⟩ := hc_
  refine Rn.step (pc' := 17) rfl rfl ?_
  refine Rn.iconst (v := 0) (pc' := 18) rfl (by decide) rfl ?_
  refine Rn.step (pc' := 20) rfl rfl ?_
  refine Rn.iconst (v := (-2)) (pc' := 22) rfl (by decide) rfl ?_
  refine Rn.step (pc' := 24) rfl rfl ?_
  refine Rn.iconst (v := 0) (pc' := 25) rfl (by decide) rfl ?_
  refine Rn.step (pc' := 27) rfl rfl ?_
  exact l_T_sec hfd hh hr hD hN h4 hd 0 (by omega) _ ⟨_, _, L2, rfl, (fs1.fz z2).1, is1.up (Or.inl rfl) w3⟩
theorem nI_tn (n : Nat) : (nI n).toBitVec.toNat = n % 2 ^ 32 := BitVec.toNat_ofNat n 32
def cdr (D : Nat) : Nat := (D * 1103515245 + 12345) % 2147483648
theorem cdr_lt (D : Nat) : cdr D < 2147483648 := Nat.mod_lt _ (by omega)
theorem cdr_c {D : Nat} (h : D < 2147483648) : ((nI D).toInt64 * 1103515245 + 12345).toInt32 &&& 2147483647 = nI (cdr D) := by
  rw [nI_l (by omega), show (1103515245 : Int64) = lN 1103515245 from rfl, show (12345 : Int64) = lN 12345 from rfl, lN_mul, lN_add, lN_i, pk_and _ 31 (by decide), nI_tn]
  unfold cdr
  rw [show (D * 1103515245 + 12345) % 2 ^ 32 % 2 ^ 31 = (D * 1103515245 + 12345) % 2147483648 by omega]
theorem cdr_m {D : Nat} (h : D < 2147483648) : drw ((nI D).toInt64) = (nI (cdr D)).toInt64 := by
  unfold drw
  have hc := cdr_lt D
  rw [nI_l (by omega), nI_l (by omega), show (1103515245 : Int64) = lN 1103515245 from rfl, show (12345 : Int64) = lN 12345 from rfl, show (2147483648 : Int64) = lN 2147483648 from rfl, lN_mul, lN_add, pk_lRem (by omega) (by omega) (by omega)]
  rfl
theorem cdr_a {D : Nat} (h : D < 2147483648) : drA ((nI D).toInt64) = nI (cdr D / 65536 % 100) := by
  unfold drA
  have hc := cdr_lt D
  rw [cdr_m h, nI_l (by omega), show (65536 : Int64) = lN 65536 from rfl, show (100 : Int64) = lN 100 from rfl, pk_lDiv (by omega) (by omega) (by omega), pk_lRem (by omega) (by omega) (by omega), lN_i]
theorem cdr_i {D : Nat} (h : D < 2147483648) : nI D / 65536 - nI D / 65536 / 100 * 100 = nI (D / 65536 % 100) := by
  rw [show (65536 : Int32) = nI 65536 from rfl, show (100 : Int32) = nI 100 from rfl, pk_div (by omega) (by omega) (by omega), pk_rem (by omega) (by omega) (by omega)]
theorem HB.d {P : Nat} {E : xEv} {s : Nat → Int32} {F I : Nat → Nat → Int32} {H : Value} {m0 : xM} (h : HB P E s F I H m0) {x : Int32} (hx : x = 0 ∨ x = 1) : HB P (eFd E x) s F I H m0 := ⟨h.lr, h.wl, h.wx, h.wd, h.se, hx, h.ru⟩
theorem wiE_all (E : xEv) (p : Int32) (s : Nat → Int32) (z all : Int32) (x : Int64) : ∀ k, (wiE E p s z all x k).1 = (wiE E p s z 0 x k).1 ∧ (wiE E p s z all x k).2.1 = (wiE E p s z 0 x k).2.1 ∧ (wiE E p s z all x k).2.2.1 = all + (wiE E p s z 0 x k).2.2.1 ∧ (wiE E p s z all x k).2.2.2 = (wiE E p s z 0 x k).2.2.2
  | 0 => ⟨rfl, rfl, (Int32.add_zero _).symm, rfl⟩
  | k + 1 => by
    obtain ⟨h1, h2, h3, h4⟩ := wiE_all E p s z all x k
    rw [wiE_s, wiE_s]
    refine ⟨?_, ?_, ?_, ?_⟩
    · show (mPs _ _ _).1 = (mPs _ _ _).1
      rw [h1, h2, h4]
    · show (mPs _ _ _).2.1 = (mPs _ _ _).2.1
      rw [h1, h2, h4]
    · show _ + (mPs _ _ _).2.2 = all + (_ + (mPs _ _ _).2.2)
      rw [h1, h2, h3, h4, Int32.add_assoc]
    · show drw _ = drw _
      rw [h4]
theorem wi_6 {P : Nat} {E : xEv} {s : Nat → Int32} (h : WL P E.Bn E.Fn E.Wn s) (g : WD P E.Bn s) (p z all : Int32) (x : Int64) {N : Nat} (hD : DB s N) : ∀ k, DB (wiE E p s z all x k).1 (N + k)
  | 0 => hD
  | k + 1 => by
    have ih := wi_6 h g p z all x hD k
    rw [wiE_s]
    have := ih.hour (E := eFd E (if drA (wiE E p s z all x k).2.2.2 < p then 1 else 0)) (h.fx (wiE_w h g p z all x k).1)
    rw [show hS (eFd E (if drA (wiE E p s z all x k).2.2.2 < p then 1 else 0)) (wiE E p s z all x k).1 = (mPs (eFd E (if drA (wiE E p s z all x k).2.2.2 < p then 1 else 0)) (wiE E p s z all x k).1 (wiE E p s z all x k).2.1).1 from (mPs_z _ _ _).1.symm] at this
    exact this
set_option maxHeartbeats 4000000 in
theorem l_T_win {d P N : Nat} {E : xEv} (hh : HB P E s F I H m0) (hD : DB s 600) (hN : N < 199) (hd : 7 ≤ d) {p z : Int32} {x : Int64} (k : Nat) (hk : k ≤ N) {w : Nat → Int32} (hr : WR gg E.Bn (wiE E p s z 0 x k).1 w) {m : xM} (hm : ∃ F1 I1 L1, m = CWm m0 F1 I1 L1 R H 25 w ∧ tF F F1 ∧ tI I I1 ∧ F1 14 5 = (wiE E p s z 0 x k).2.1 ∧ ∃ Dk, Dk < 2147483648 ∧ F1 24 4 = nI Dk ∧ (wiE E p s z 0 x k).2.2.2 = (nI Dk).toInt64) : Rn d j_Trials_winter 14 [.ref 24, .ref 14, .ref 8, .int (nI N), .int p, .int (wiE E p s z 0 x k).2.2.1, .int (nI k)] [] m (fun r m2 => r = some (.int (wiE E p s z 0 x N).2.2.1) ∧ ∃ w, ∃ F1 I1 L1, m2 = CWm m0 F1 I1 L1 R H 25 w ∧ tF F F1 ∧ tI I I1 ∧ F1 14 5 = (wiE E p s z 0 x N).2.1 ∧ ∃ Dk, Dk < 2147483648 ∧ F1 24 4 = nI Dk ∧ (wiE E p s z 0 x N).2.2.2 = (nI Dk).toInt64) := by
  obtain ⟨F1, I1, L1, rfl, fs1, is1, q5, Dk, hDk, q4, hx⟩ := hm
  have hwk := wiE_w (E := E) hh.wl hh.wd p z 0 x k
  refine Rn.step (pc' := 16) rfl rfl ?_
  refine Rn.step (pc' := 17) rfl rfl ?_
  refine Rn.icmp_ge (pc1 := 80) (pc2 := 20) rfl rfl rfl (fun h17 => ?_) (fun h17 => ?_)
  · obtain rfl := nI_up (by omega) hk h17
    refine Rn.step (pc' := 82) rfl rfl ?_
    exact Rn.iret rfl (rfl) (⟨rfl, w, F1, I1, L1, rfl, fs1, is1, q5, Dk, hDk, q4, hx⟩)
  · have hk2 := nI_dn (by omega) hk h17
    have hD2 : ∃ D, D < 999 ∧ (wiE E p s z 0 x k).1 6 = nI D := by
      obtain ⟨D, h1, h2⟩ := wi_6 hh.wl hh.wd p z 0 x hD k
      exact ⟨D, by omega, h2⟩
    refine Rn.step (pc' := 21) rfl rfl ?_
    refine Rn.step (pc' := 22) rfl rfl ?_
    refine Rn.getf (pc' := 25) rfl rfl rfl rfl rfl ?_
    refine Rn.i2l (pc' := 26) rfl rfl ?_
    refine Rn.ldc2 (v := 1103515245) (pc' := 29) rfl (by decide) rfl ?_
    refine Rn.lmul (pc' := 30) rfl rfl ?_
    refine Rn.ldc2 (v := 12345) (pc' := 33) rfl (by decide) rfl ?_
    refine Rn.ladd (pc' := 34) rfl rfl ?_
    refine Rn.l2i (pc' := 35) rfl rfl ?_
    refine Rn.iconst (v := 2147483647) (pc' := 37) rfl (by decide) rfl ?_
    refine Rn.iand (pc' := 38) rfl rfl ?_
    rw [q4, cdr_c hDk]
    refine Rn.cput (pc' := 41) rfl rfl rfl rfl rfl (by decide) rfl ?_
    refine Rn.step (pc' := 43) rfl rfl ?_
    refine Rn.step (pc' := 44) rfl rfl ?_
    refine Rn.step (pc' := 45) rfl rfl ?_
    refine Rn.getf (pc' := 48) rfl rfl rfl rfl rfl ?_
    refine Rn.step (pc' := 49) rfl rfl ?_
    refine Rn.getf (pc' := 52) rfl rfl rfl rfl rfl ?_
    refine Rn.iconst (v := 65536) (pc' := 54) rfl (by decide) rfl ?_
    refine Rn.idiv (pc' := 55) rfl (by decide) rfl ?_
    refine Rn.iconst (v := 100) (pc' := 57) rfl (by decide) rfl ?_
    refine Rn.irem (pc' := 58) rfl (by decide) rfl ?_
    refine Rn.step (pc' := 60) rfl rfl ?_
    refine Rn.icmp_ge (pc1 := 67) (pc2 := 63) rfl rfl rfl (fun h60 => ?_) (fun h60 => ?_)
    · refine Rn.iconst (v := 0) (pc' := 68) rfl (by decide) rfl ?_
      refine Rn.callV (pc' := 71) rfl (by decide) (by omega) rfl rfl rfl (c_H_pass (E := eFd E 0) (o := 25) (gg := gg) (by unfold isW; omega) (((hh.to hwk.1 hwk.2).t (fs1.wh _) is1).d (Or.inl rfl)) hr hD2 (by omega)) (fun r_ m_ hc_ => ?_)
      obtain ⟨rfl, L2, w2, rfl, hr2⟩ := hc_
      refine Rn.iadd (pc' := 72) rfl rfl ?_
      refine Rn.step (pc' := 74) rfl rfl ?_
      refine Rn.step (pc' := 77) rfl rfl ?_
      refine Rn.step (pc' := 14) rfl rfl ?_
      have hfl : (if drA (wiE E p s z 0 x k).2.2.2 < p then (1 : Int32) else 0) = 0 := by
        rw [hx, cdr_a hDk]
        exact if_neg (Int32.not_lt.mpr (by have h : p ≤ nI (cdr Dk) / 65536 - nI (cdr Dk) / 65536 / 100 * 100 := h60; rw [cdr_i (cdr_lt _)] at h; exact h))
      have eS : hS (eFd E 0) (wiE E p s z 0 x k).1 = (mPs (eFd E 0) (wiE E p s z 0 x k).1 (wiE E p s z 0 x k).2.1).1 := (mPs_z (eFd E 0) (wiE E p s z 0 x k).1 (wiE E p s z 0 x k).2.1).1.symm
      have eP : hP (eFd E 0) (wiE E p s z 0 x k).1 = (mPs (eFd E 0) (wiE E p s z 0 x k).1 (wiE E p s z 0 x k).2.1).2.2 := (mPs_z (eFd E 0) (wiE E p s z 0 x k).1 (wiE E p s z 0 x k).2.1).2.symm
      have e5 : va_up F1 24 (upd (F1 24) 4 (nI (cdr Dk))) 14 5 = (wiE E p s z 0 x k).2.1 := (congrFun (up_ne F1 _ (by decide)) 5).trans q5
      have := l_T_win (p := p) (z := z) (x := x) hh hD hN hd (k + 1) (by omega) (w := w2) (by rw [wiE_s, hfl]; exact eS ▸ hr2) (m := CWm m0 (fzF (va_up F1 24 (upd (F1 24) 4 (nI (cdr Dk)))) (mPs (eFd E 0) (wiE E p s z 0 x k).1 (wiE E p s z 0 x k).2.1).2.1) I1 L2 R H 25 w2) ⟨_, I1, L2, rfl, (fs1.wh _).fz _, is1, by rw [wiE_s, hfl]; rfl, cdr Dk, cdr_lt Dk, rfl, by rw [wiE_s]; show drw _ = _; rw [hx, cdr_m hDk]⟩
      rw [wiE_s, hfl, ← nI_i1 k] at this
      rw [e5, eP]
      exact this
    · refine Rn.iconst (v := 1) (pc' := 64) rfl (by decide) rfl ?_
      refine Rn.step (pc' := 68) rfl rfl ?_
      refine Rn.callV (pc' := 71) rfl (by decide) (by omega) rfl rfl rfl (c_H_pass (E := eFd E 1) (o := 25) (gg := gg) (by unfold isW; omega) (((hh.to hwk.1 hwk.2).t (fs1.wh _) is1).d (Or.inr rfl)) hr hD2 (by omega)) (fun r_ m_ hc_ => ?_)
      obtain ⟨rfl, L2, w2, rfl, hr2⟩ := hc_
      refine Rn.iadd (pc' := 72) rfl rfl ?_
      refine Rn.step (pc' := 74) rfl rfl ?_
      refine Rn.step (pc' := 77) rfl rfl ?_
      refine Rn.step (pc' := 14) rfl rfl ?_
      have hfl : (if drA (wiE E p s z 0 x k).2.2.2 < p then (1 : Int32) else 0) = 1 := by
        rw [hx, cdr_a hDk]
        exact if_pos (Int32.not_le.mp (by have h : ¬ p ≤ nI (cdr Dk) / 65536 - nI (cdr Dk) / 65536 / 100 * 100 := h60; rw [cdr_i (cdr_lt _)] at h; exact h))
      have eS : hS (eFd E 1) (wiE E p s z 0 x k).1 = (mPs (eFd E 1) (wiE E p s z 0 x k).1 (wiE E p s z 0 x k).2.1).1 := (mPs_z (eFd E 1) (wiE E p s z 0 x k).1 (wiE E p s z 0 x k).2.1).1.symm
      have eP : hP (eFd E 1) (wiE E p s z 0 x k).1 = (mPs (eFd E 1) (wiE E p s z 0 x k).1 (wiE E p s z 0 x k).2.1).2.2 := (mPs_z (eFd E 1) (wiE E p s z 0 x k).1 (wiE E p s z 0 x k).2.1).2.symm
      have e5 : va_up F1 24 (upd (F1 24) 4 (nI (cdr Dk))) 14 5 = (wiE E p s z 0 x k).2.1 := (congrFun (up_ne F1 _ (by decide)) 5).trans q5
      have := l_T_win (p := p) (z := z) (x := x) hh hD hN hd (k + 1) (by omega) (w := w2) (by rw [wiE_s, hfl]; exact eS ▸ hr2) (m := CWm m0 (fzF (va_up F1 24 (upd (F1 24) 4 (nI (cdr Dk)))) (mPs (eFd E 1) (wiE E p s z 0 x k).1 (wiE E p s z 0 x k).2.1).2.1) I1 L2 R H 25 w2) ⟨_, I1, L2, rfl, (fs1.wh _).fz _, is1, by rw [wiE_s, hfl]; rfl, cdr Dk, cdr_lt Dk, rfl, by rw [wiE_s]; show drw _ = _; rw [hx, cdr_m hDk]⟩
      rw [wiE_s, hfl, ← nI_i1 k] at this
      rw [e5, eP]
      exact this
termination_by N - k
theorem c_T_win {d P N : Nat} {E : xEv} (hh : HB P E s F I H m0) (hD : DB s 600) (hN : N < 199) (hd : 7 ≤ d) (hr : WR gg E.Bn s (I 9)) {p z : Int32} {x : Int64} {m : xM} (hm : ∃ F1 I1 L1, m = CC m0 F1 I1 L1 R H ∧ tF F F1 ∧ tI I I1 ∧ F1 14 5 = z ∧ ∃ Dk, Dk < 2147483648 ∧ F1 24 4 = nI Dk ∧ x = (nI Dk).toInt64) : Cl d j_Trials_winter [.ref 24, .ref 14, .ref 8, .int (nI N), .int p] m (fun r m2 => r = some (.int (wiE E p s z 0 x N).2.2.1) ∧ ∃ w, ∃ F1 I1 L1, m2 = CWm m0 F1 I1 L1 R H 25 w ∧ tF F F1 ∧ tI I I1 ∧ F1 14 5 = (wiE E p s z 0 x N).2.1 ∧ ∃ Dk, Dk < 2147483648 ∧ F1 24 4 = nI Dk ∧ (wiE E p s z 0 x N).2.2.2 = (nI Dk).toInt64) := by
  obtain ⟨F1, I1, L1, rfl, fs1, is1, q5, Dk, hDk, q4, hx⟩ := hm
  have hb6 := hh.wl.b6
  show Rn d j_Trials_winter 0 _ _ _ _
  refine Rn.step (pc' := 1) rfl rfl ?_
  refine Rn.getf (pc' := 4) rfl rfl rfl rfl rfl ?_
  refine Rn.step (pc' := 5) rfl rfl ?_
  refine Rn.vv (pc' := 8) rfl (by decide) (by omega) rfl rfl rfl (c_W_copyFrom (o := 25) (o2 := 8) (by omega) (by unfold isW; omega) (by unfold isW; omega)) ?_
  refine Rn.iconst (v := 0) (pc' := 9) rfl (by decide) rfl ?_
  refine Rn.step (pc' := 11) rfl rfl ?_
  refine Rn.iconst (v := 0) (pc' := 12) rfl (by decide) rfl ?_
  refine Rn.step (pc' := 14) rfl rfl ?_
  exact l_T_win hh hD hN hd 0 (by omega) (WR.cpy (by rw [is1 9 (by omega) (by omega) (by omega)]; exact hr) hb6) ⟨F1, I1, L1, rfl, fs1, is1, q5, Dk, hDk, q4, hx⟩
end CH
