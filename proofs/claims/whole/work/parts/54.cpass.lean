/-! THE CLASS: walks, chills, passes. -/
section CE
variable {m0 : xM} {F I : Nat → Nat → Int32} {L : Nat → Nat → Int64} {R : Nat → Nat → Option Nat} {H : Value} {s w : Nat → Int32} {o : Nat} {gg : Prop}
theorem cmp_sg {a b : Nat} (ha : a < 100) (hb : b < 100) : (if nI a < nI b then (-1 : Int32) else if nI a = nI b then 0 else 1) = sg64 ((nI a - nI b).toInt64) := by
  have : ∀ a, a < 100 → ∀ b, b < 100 → (if nI a < nI b then (-1 : Int32) else if nI a = nI b then 0 else 1) = sg64 ((nI a - nI b).toInt64) := by decide +kernel
  exact this a ha b hb
theorem mGo_in {P Bn Fn Wn b : Nat} {s : Nat → Int32} (h : WL P Bn Fn Wn s) (hx : WX P Wn s) (hb : b < Bn) : ∃ q, q < P ∧ mGo s b Wn = nI q := by
  unfold mGo
  cases hn : nxw s b Wn with
  | none => exact h.hm b hb
  | some q => exact hx q (nxw_lt hn)
theorem mW9_min (x : Int32) : (if (999 : Int32) < x then 999 else x) = mW9 x := rfl
theorem l_H_walk {d Bn b : Nat} {t : Nat → Int32} {fl p to : Int32} (ho : isW o) (hB : Bn ≤ 6) (hd : 1 ≤ d) (k : Nat) (hk : k ≤ 2) (w : Nat → Int32) (hr : WR gg Bn (mWo t (nI b) (if fl = 0 then (1 : Int32) else 2) k) w) (x7 : Value) : Rn d j_Hours_walk 118 [.ref 14, .ref o, .int (nI b), .int fl, .int p, .int to, .int (nI k), x7] [] (CWm m0 F I L R H o w) (fun r m2 => r = none ∧ ∃ w2, m2 = CWm m0 F I L R H o w2 ∧ WR gg Bn (mWo t (nI b) (if fl = 0 then (1 : Int32) else 2) 2) w2) := by
  refine Rn.step (pc' := 120) rfl rfl ?_
  refine Rn.iconst (v := 2) (pc' := 121) rfl (by decide) rfl ?_
  refine Rn.icmp_ge (pc1 := 184) (pc2 := 124) rfl rfl rfl (fun h121 => ?_) (fun h121 => ?_)
  · obtain rfl := nI_up (by omega) hk h121
    exact Rn.vret rfl (⟨rfl, w, rfl, hr⟩)
  · have hk2 := nI_dn (by omega) hk h121
    refine Rn.step (pc' := 125) rfl rfl ?_
    refine Rn.cgw (pc' := 128) rfl ho rfl ?_
    refine Rn.iconst (v := 24) (pc' := 130) rfl (by decide) rfl ?_
    refine Rn.step (pc' := 132) rfl rfl ?_
    refine Rn.iadd (pc' := 133) rfl rfl ?_
    refine Rn.cwld (k := 24 + k) (pc' := 134) rfl ho (by simp only [nI_lit, nI_add, pk_mul, Nat.zero_add]) (by omega) (hr.wr k hk2) (by decide) rfl ?_
    refine Rn.step (pc' := 135) rfl rfl ?_
    refine Rn.icmp_ne (pc1 := 178) (pc2 := 138) rfl rfl rfl (fun h135 => ?_) (fun h135 => ?_)
    · refine Rn.step (pc' := 181) rfl rfl ?_
      refine Rn.step (pc' := 118) rfl rfl ?_
      have e : mWo t (nI b) (if fl = 0 then (1 : Int32) else 2) (k + 1) = mWo t (nI b) (if fl = 0 then (1 : Int32) else 2) k := by rw [mWo_s, if_neg h135]
      have := l_H_walk (d := d) (fl := fl) (p := p) (to := to) ho hB hd (k + 1) (by omega) w (by rw [e]; exact hr) x7
      rw [← nI_i1 k] at this
      exact this
    · refine Rn.step (pc' := 139) rfl rfl ?_
      refine Rn.cgw (pc' := 142) rfl ho rfl ?_
      refine Rn.iconst (v := 28) (pc' := 144) rfl (by decide) rfl ?_
      refine Rn.step (pc' := 146) rfl rfl ?_
      refine Rn.iadd (pc' := 147) rfl rfl ?_
      refine Rn.cwld (k := 28 + k) (pc' := 148) rfl ho (by simp only [nI_lit, nI_add, pk_mul, Nat.zero_add]) (by omega) (hr.wo k hk2) (by decide) rfl ?_
      refine Rn.step (pc' := 149) rfl rfl ?_
      refine Rn.ifc_eq (pc1 := 156) (pc2 := 152) rfl rfl rfl (fun h149 => ?_) (fun h149 => ?_)
      · refine Rn.iconst (v := 1) (pc' := 157) rfl (by decide) rfl ?_
        refine Rn.iadd (pc' := 158) rfl rfl ?_
        refine Rn.step (pc' := 160) rfl rfl ?_
        refine Rn.step (pc' := 161) rfl rfl ?_
        refine Rn.cgw (pc' := 164) rfl ho rfl ?_
        refine Rn.iconst (v := 28) (pc' := 166) rfl (by decide) rfl ?_
        refine Rn.step (pc' := 168) rfl rfl ?_
        refine Rn.iadd (pc' := 169) rfl rfl ?_
        refine Rn.step (pc' := 171) rfl rfl ?_
        refine Rn.iconst (v := 999) (pc' := 174) rfl (by decide) rfl ?_
        refine Rn.si (pc' := 177) rfl (by decide) (by omega) rfl rfl (c_min _ _) ?_
        refine Rn.cwst (k := 28 + k) (pc' := 178) rfl ho (by simp only [nI_lit, nI_add, pk_mul, Nat.zero_add]) (by omega) (by decide) rfl ?_
        refine Rn.step (pc' := 181) rfl rfl ?_
        refine Rn.step (pc' := 118) rfl rfl ?_
        have e : mWo t (nI b) (if fl = 0 then (1 : Int32) else 2) (k + 1) = upd (mWo t (nI b) (if fl = 0 then (1 : Int32) else 2) k) (46 + 3 * k + 2) (mW9 (mWo t (nI b) (if fl = 0 then (1 : Int32) else 2) k (46 + 3 * k + 2) + 1)) := by rw [mWo_s, if_pos h135, if_pos h149]
        have := l_H_walk (d := d) (fl := fl) (p := p) (to := to) ho hB hd (k + 1) (by omega) (upd w (28 + k) (mW9 (mWo t (nI b) (if fl = 0 then (1 : Int32) else 2) k (46 + 3 * k + 2) + 1))) (by rw [e]; exact hr.uWo hB hk2 _) (.int (mWo t (nI b) (if fl = 0 then (1 : Int32) else 2) k (46 + 3 * k + 2) + 1))
        rw [← nI_i1 k] at this
        exact this
      · refine Rn.iconst (v := 2) (pc' := 153) rfl (by decide) rfl ?_
        refine Rn.step (pc' := 157) rfl rfl ?_
        refine Rn.iadd (pc' := 158) rfl rfl ?_
        refine Rn.step (pc' := 160) rfl rfl ?_
        refine Rn.step (pc' := 161) rfl rfl ?_
        refine Rn.cgw (pc' := 164) rfl ho rfl ?_
        refine Rn.iconst (v := 28) (pc' := 166) rfl (by decide) rfl ?_
        refine Rn.step (pc' := 168) rfl rfl ?_
        refine Rn.iadd (pc' := 169) rfl rfl ?_
        refine Rn.step (pc' := 171) rfl rfl ?_
        refine Rn.iconst (v := 999) (pc' := 174) rfl (by decide) rfl ?_
        refine Rn.si (pc' := 177) rfl (by decide) (by omega) rfl rfl (c_min _ _) ?_
        refine Rn.cwst (k := 28 + k) (pc' := 178) rfl ho (by simp only [nI_lit, nI_add, pk_mul, Nat.zero_add]) (by omega) (by decide) rfl ?_
        refine Rn.step (pc' := 181) rfl rfl ?_
        refine Rn.step (pc' := 118) rfl rfl ?_
        have e : mWo t (nI b) (if fl = 0 then (1 : Int32) else 2) (k + 1) = upd (mWo t (nI b) (if fl = 0 then (1 : Int32) else 2) k) (46 + 3 * k + 2) (mW9 (mWo t (nI b) (if fl = 0 then (1 : Int32) else 2) k (46 + 3 * k + 2) + 2)) := by rw [mWo_s, if_pos h135, if_neg h149]
        have := l_H_walk (d := d) (fl := fl) (p := p) (to := to) ho hB hd (k + 1) (by omega) (upd w (28 + k) (mW9 (mWo t (nI b) (if fl = 0 then (1 : Int32) else 2) k (46 + 3 * k + 2) + 2))) (by rw [e]; exact hr.uWo hB hk2 _) (.int (mWo t (nI b) (if fl = 0 then (1 : Int32) else 2) k (46 + 3 * k + 2) + 2))
        rw [← nI_i1 k] at this
        exact this
termination_by 2 - k
theorem f_w80 {d P Bn Fn Wn b : Nat} {fl : Int32} {way : Int64} (ho : isW o) (hB : Bn ≤ 6) (hd : 1 ≤ d) (hl : LR P Bn Fn Wn s F I) (hr : WR gg Bn s w) (hb : b < Bn) (hfz : ¬ s (10 + 6 * b + 4) = 1) (x6 x7 : Value) : Rn d j_Hours_walk 80 [.ref 14, .ref o, .int (nI b), .int fl, .int (s (10 + 6 * b)), .int (s (10 + 6 * b) + sg64 way), x6, x7] [] (CWm m0 F I L R H o w) (fun r m2 => r = none ∧ ∃ L2 w2, m2 = CWm m0 F I L2 R H o w2 ∧ WR gg Bn (mWl s b (if fl = 0 then (1 : Int32) else 2) way) w2) := by
  refine Rn.step (pc' := 82) rfl rfl ?_
  refine Rn.step (pc' := 84) rfl rfl ?_
  refine Rn.icmp_eq (pc1 := 104) (pc2 := 87) rfl rfl rfl (fun h84 => ?_) (fun h84 => ?_)
  · exact Rn.vret rfl (⟨rfl, L, w, rfl, by
        unfold mWl
        rw [if_neg hfz, if_neg (fun z => z.2 h84)]
        exact hr⟩)
  · refine Rn.step (pc' := 89) rfl rfl ?_
    refine Rn.ifc_lt (pc1 := 104) (pc2 := 92) rfl rfl rfl (fun h89 => ?_) (fun h89 => ?_)
    · exact Rn.vret rfl (⟨rfl, L, w, rfl, by
          unfold mWl
          rw [if_neg hfz, if_neg (fun z => z.1.1 h89)]
          exact hr⟩)
    · refine Rn.step (pc' := 94) rfl rfl ?_
      refine Rn.step (pc' := 95) rfl rfl ?_
      refine Rn.getf (pc' := 98) rfl rfl rfl rfl rfl ?_
      refine Rn.getf (pc' := 101) rfl rfl rfl rfl rfl ?_
      refine Rn.icmp_lt (pc1 := 105) (pc2 := 104) rfl rfl rfl (fun h101 => ?_) (fun h101 => ?_)
      · refine Rn.step (pc' := 106) rfl rfl ?_
        refine Rn.cgw (pc' := 109) rfl ho rfl ?_
        refine Rn.iconst (v := 0) (pc' := 110) rfl (by decide) rfl ?_
        refine Rn.step (pc' := 111) rfl rfl ?_
        refine Rn.iadd (pc' := 112) rfl rfl ?_
        refine Rn.step (pc' := 114) rfl rfl ?_
        refine Rn.cwst (k := b) (pc' := 115) rfl ho (by simp only [nI_lit, nI_add, pk_mul, Nat.zero_add]) (by omega) (by decide) rfl ?_
        refine Rn.iconst (v := 0) (pc' := 116) rfl (by decide) rfl ?_
        refine Rn.step (pc' := 118) rfl rfl ?_
        have e : mWl s b (if fl = 0 then (1 : Int32) else 2) way = mWo (upd s (10 + 6 * b) (s (10 + 6 * b) + sg64 way)) (nI b) (if fl = 0 then (1 : Int32) else 2) 2 := by
          unfold mWl
          rw [if_neg hfz, if_pos ⟨⟨h89, by rw [← hl.p]; exact Int32.not_le.mpr h101⟩, h84⟩]
          rfl
        rw [e]
        refine (l_H_walk ho hB hd 0 (by omega) _ (hr.uPl hB hb _) _).conseq ?_
        rintro r m2 ⟨rfl, w2, rfl, h9⟩
        exact ⟨rfl, L, w2, rfl, h9⟩
      · exact Rn.vret rfl (⟨rfl, L, w, rfl, by
            unfold mWl
            rw [if_neg hfz, if_neg (fun z => z.1.2 (by rw [← hl.p]; exact Int32.not_lt.mp h101))]
            exact hr⟩)
theorem ClC_sm {ts : Nat → Nat × Nat} {N : Nat} {fe : Nat → Int32} : ∀ {r : List xCl4} {c b : Nat}, ClC ts N fe c b r → ∀ q ∈ r, q.2.1 ≤ N ∧ q.1 ≤ q.2.1 ∧ ∀ t, q.2.2.1 = some t → t ≤ q.2.2.2 ∧ q.2.2.2 ≤ N
  | [], _, _, _, q, hq => by cases hq
  | p :: r, c, b, h, q, hq => by
    unfold ClC at h
    obtain ⟨-, -, e1, q2, q3, q4, q5, q6, q7⟩ := h
    rcases List.mem_cons.mp hq with e | e
    · subst e
      refine ⟨q3, by omega, fun t ht => ?_⟩
      obtain ⟨z1, z2, z3, -⟩ := q6 t ht
      exact ⟨by omega, z3⟩
    · exact ClC_sm q7 q e
theorem c_H_walk {d P b : Nat} {E : xEv} {fl : Int32} (ho : isW o) (hh : HB P E s F I H m0) (hr : WR gg E.Bn s w) (hb : b < E.Bn) (hfz : ¬ s (10 + 6 * b + 4) = 1) (hfl : fl = mFr s E.fd E.Fn) (hd : 3 ≤ d) : Cl d j_Hours_walk [.ref 14, .ref o, .int (nI b), .int fl] (CWm m0 F I L R H o w) (fun r m2 => r = none ∧ ∃ L2 w2, m2 = CWm m0 F I L2 R H o w2 ∧ WR gg E.Bn (mWl s b (if fl = 0 then (1 : Int32) else 2) (mWy E.fo E.rl s E.sec E.fd E.Bn E.Fn E.Wn b)) w2) := by
  have hb6 := hh.wl.b6
  show Rn d j_Hours_walk 0 _ _ _ _
  rcases hh.ru with ⟨hfo, hH⟩ | ⟨hfo, a, hH, hq⟩
  · subst hH
    refine Rn.step (pc' := 1) rfl rfl ?_
    refine Rn.cgw (pc' := 4) rfl ho rfl ?_
    refine Rn.iconst (v := 0) (pc' := 5) rfl (by decide) rfl ?_
    refine Rn.step (pc' := 6) rfl rfl ?_
    refine Rn.iadd (pc' := 7) rfl rfl ?_
    refine Rn.cwld (k := b) (pc' := 8) rfl ho (by simp only [nI_lit, nI_add, pk_mul, Nat.zero_add]) (by omega) (hr.pl b hb) (by decide) rfl ?_
    refine Rn.step (pc' := 10) rfl rfl ?_
    refine Rn.step (pc' := 12) rfl rfl ?_
    refine Rn.step (pc' := 14) rfl rfl ?_
    refine Rn.step (pc' := 15) rfl rfl ?_
    refine Rn.getf (pc' := 18) rfl rfl rfl rfl rfl ?_
    refine Rn.ifnonnull_null (pc' := 21) rfl rfl ?_
    refine Rn.step (pc' := 23) rfl rfl ?_
    refine Rn.step (pc' := 24) rfl rfl ?_
    refine Rn.getf (pc' := 27) rfl rfl rfl rfl rfl ?_
    refine Rn.step (pc' := 28) rfl rfl ?_
    refine Rn.step (pc' := 29) rfl rfl ?_
    refine Rn.cgw (pc' := 32) rfl ho rfl ?_
    refine Rn.iconst (v := 30) (pc' := 34) rfl (by decide) rfl ?_
    refine Rn.cwld (k := 30) (pc' := 35) rfl ho (by simp only [nI_lit, nI_add, pk_mul, Nat.zero_add]) (by omega) (hr.h) (by decide) rfl ?_
    refine Rn.vi (pc' := 38) rfl (by decide) (by omega) rfl rfl rfl (c_C_goalOf (by omega) ((hh.lr).v ho _) hh.wl.w hh.wl.w10 hh.wl.wh hb6 hb) ?_
    refine Rn.step (pc' := 40) rfl rfl ?_
    refine Rn.si (pc' := 43) rfl (by decide) (by omega) rfl rfl (c_I_compare _ _) ?_
    refine Rn.iadd (pc' := 44) rfl rfl ?_
    refine Rn.step (pc' := 46) rfl rfl ?_
    refine Rn.step (pc' := 80) rfl rfl ?_
    have ew : mWy E.fo E.rl s E.sec E.fd E.Bn E.Fn E.Wn b = (mGo s b E.Wn - s (10 + 6 * b)).toInt64 := by
      unfold mWy
      rw [if_pos hfo]
      rfl
    obtain ⟨q, hq1, hq2⟩ := mGo_in hh.wl hh.wx hb
    obtain ⟨p, hp1, hp2⟩ := hh.wd.pl b hb
    have hp10 := hh.wl.p10
    have := f_w80 (fl := fl) (way := mWy E.fo E.rl s E.sec E.fd E.Bn E.Fn E.Wn b) (m0 := m0) (F := F) (I := I) (L := L) (R := R) (H := .null) ho hb6 (by omega) hh.lr hr hb hfz xb xb (d := d)
    rw [ew, hq2, hp2, ← cmp_sg (by omega) (by omega)] at this
    rw [hq2, hp2, ew, hq2, hp2]
    exact this
  · subst hH
    have hq2 := hq
    obtain ⟨S, En, fs, fe, h1, ha, h3, h4, h5, h6, h7, h8, h9, h10, h11⟩ := hq2
    have htk : ∀ i, i < (E.rl E.fo.toNatClampNeg).2.1 → tOk ((E.rl E.fo.toNatClampNeg).1 i) := fun i hi => (h8 i hi).2
    have hcl := ClC_sm h11
    refine Rn.step (pc' := 1) rfl rfl ?_
    refine Rn.cgw (pc' := 4) rfl ho rfl ?_
    refine Rn.iconst (v := 0) (pc' := 5) rfl (by decide) rfl ?_
    refine Rn.step (pc' := 6) rfl rfl ?_
    refine Rn.iadd (pc' := 7) rfl rfl ?_
    refine Rn.cwld (k := b) (pc' := 8) rfl ho (by simp only [nI_lit, nI_add, pk_mul, Nat.zero_add]) (by omega) (hr.pl b hb) (by decide) rfl ?_
    refine Rn.step (pc' := 10) rfl rfl ?_
    refine Rn.step (pc' := 12) rfl rfl ?_
    refine Rn.step (pc' := 14) rfl rfl ?_
    refine Rn.step (pc' := 15) rfl rfl ?_
    refine Rn.getf (pc' := 18) rfl rfl rfl rfl rfl ?_
    refine Rn.ifnonnull_ref (pc' := 49) rfl (ha) rfl ?_
    refine Rn.step (pc' := 50) rfl rfl ?_
    refine Rn.step (pc' := 51) rfl rfl ?_
    refine Rn.step (pc' := 52) rfl rfl ?_
    refine Rn.step (pc' := 53) rfl rfl ?_
    refine Rn.callV (pc' := 56) rfl (by decide) (by omega) rfl rfl rfl (c_H_fillWords ho hh hr hb hfl (by omega)) (fun r_ m_ hc_ => ?_)
    obtain ⟨rfl, g2, rfl, hg2⟩ := hc_
    refine Rn.step (pc' := 58) rfl rfl ?_
    refine Rn.step (pc' := 59) rfl rfl ?_
    refine Rn.getf (pc' := 62) rfl rfl rfl rfl rfl ?_
    refine Rn.step (pc' := 63) rfl rfl ?_
    refine Rn.getf (pc' := 66) rfl rfl rfl rfl rfl ?_
    refine Rn.step (pc' := 67) rfl rfl ?_
    refine Rn.getf (pc' := 70) rfl rfl rfl rfl rfl ?_
    have hga : (CWm m0 F I (va_up L 15 g2) R (.ref a) o w).2.2 a = some (.inr (6, [.ref S, .ref En])) := (CC_out (by omega)).trans h5
    refine Rn.callV (pc' := 73) rfl (by decide) (by omega) rfl (rcvX hga rfl) rfl (c_R_way (by omega) hq) (fun r_ m_ hc_ => ?_)
    obtain ⟨hrw, f2, rfl⟩ := hc_
    rw [va_up_self, smb_congr (wd' := mWd s E.sec E.fd E.Bn E.Fn E.Wn b) hg2 htk _ hcl] at hrw
    subst hrw
    refine Rn.ldc2 (v := 0) (pc' := 74) rfl (by decide) rfl ?_
    refine Rn.si (pc' := 77) rfl (by decide) (by omega) rfl rfl (c_L_compare _) ?_
    refine Rn.iadd (pc' := 78) rfl rfl ?_
    refine Rn.step (pc' := 80) rfl rfl ?_
    have ew : mWy E.fo E.rl s E.sec E.fd E.Bn E.Fn E.Wn b = smb (mWd s E.sec E.fd E.Bn E.Fn E.Wn b) (E.rl E.fo.toNatClampNeg).1 (E.rl E.fo.toNatClampNeg).2.2 := by
      unfold mWy
      rw [if_neg hfo]
    rw [ew]
    refine (f_w80 (fl := fl) ho hb6 (by omega) hh.lr hr hb hfz xb xb).conseq ?_
    rintro r m2 ⟨rfl, L2, w2, rfl, h9⟩
    exact ⟨rfl, L2, w2, rfl, h9⟩
theorem l_H_bare {d P Bn Fn Wn : Nat} {x : Int32} (ho : isW o) (hl : LR P Bn Fn Wn s F I) (hr : WR gg Bn s w) (k : Nat) (hk : k ≤ 2) (x5 : Value) : Rn d j_Hours_bareFeet 15 [.ref 14, .ref o, .int x, .int (mWk s x k), .int (nI k), x5] [] (CWm m0 F I L R H o w) (Pi (mWk s x 2) (CWm m0 F I L R H o w)) := by
  refine Rn.step (pc' := 17) rfl rfl ?_
  refine Rn.iconst (v := 2) (pc' := 18) rfl (by decide) rfl ?_
  refine Rn.icmp_ge (pc1 := 76) (pc2 := 21) rfl rfl rfl (fun h18 => ?_) (fun h18 => ?_)
  · obtain rfl := nI_up (by omega) hk h18
    refine Rn.step (pc' := 77) rfl rfl ?_
    exact Rn.iret rfl (rfl) (⟨rfl, rfl⟩)
  · have hk2 := nI_dn (by omega) hk h18
    refine Rn.step (pc' := 22) rfl rfl ?_
    refine Rn.cgw (pc' := 25) rfl ho rfl ?_
    refine Rn.iconst (v := 28) (pc' := 27) rfl (by decide) rfl ?_
    refine Rn.step (pc' := 29) rfl rfl ?_
    refine Rn.iadd (pc' := 30) rfl rfl ?_
    refine Rn.cwld (k := 28 + k) (pc' := 31) rfl ho (by simp only [nI_lit, nI_add, pk_mul, Nat.zero_add]) (by omega) (hr.wo k hk2) (by decide) rfl ?_
    refine Rn.step (pc' := 32) rfl rfl ?_
    refine Rn.getf (pc' := 35) rfl rfl rfl rfl rfl ?_
    refine Rn.getf (pc' := 38) rfl rfl rfl rfl rfl ?_
    refine Rn.icmp_ge (pc1 := 45) (pc2 := 41) rfl rfl rfl (fun h38 => ?_) (fun h38 => ?_)
    · refine Rn.iconst (v := 0) (pc' := 46) rfl (by decide) rfl ?_
      refine Rn.step (pc' := 48) rfl rfl ?_
      refine Rn.step (pc' := 49) rfl rfl ?_
      refine Rn.cgw (pc' := 52) rfl ho rfl ?_
      refine Rn.iconst (v := 24) (pc' := 54) rfl (by decide) rfl ?_
      refine Rn.step (pc' := 56) rfl rfl ?_
      refine Rn.iadd (pc' := 57) rfl rfl ?_
      refine Rn.cwld (k := 24 + k) (pc' := 58) rfl ho (by simp only [nI_lit, nI_add, pk_mul, Nat.zero_add]) (by omega) (hr.wr k hk2) (by decide) rfl ?_
      refine Rn.step (pc' := 59) rfl rfl ?_
      refine Rn.icmp_ne (pc1 := 67) (pc2 := 62) rfl rfl rfl (fun h59 => ?_) (fun h59 => ?_)
      · refine Rn.step (pc' := 70) rfl rfl ?_
        refine Rn.step (pc' := 73) rfl rfl ?_
        refine Rn.step (pc' := 15) rfl rfl ?_
        have e : mWk s x (k + 1) = mWk s x k + 1 := by rw [mWk, mW1, if_pos (Or.inl h59)]
        have := l_H_bare (d := d) ho hl hr (x := x) (k + 1) (by omega) (.int 0)
        rw [e, ← nI_i1 k] at this
        exact this
      · refine Rn.step (pc' := 64) rfl rfl ?_
        refine Rn.ifc_ne (pc1 := 70) (pc2 := 67) rfl rfl rfl (fun h64 => absurd h64 (fun z => z rfl)) (fun h64 => ?_)
        refine Rn.step (pc' := 70) rfl rfl ?_
        refine Rn.step (pc' := 73) rfl rfl ?_
        refine Rn.step (pc' := 15) rfl rfl ?_
        have e : mWk s x (k + 1) = mWk s x k + 1 := by rw [mWk, mW1, if_pos (Or.inr (fun z => Int32.not_lt.mpr h38 (hl.so ▸ z)))]
        have := l_H_bare (d := d) ho hl hr (x := x) (k + 1) (by omega) (.int 0)
        rw [e, ← nI_i1 k] at this
        exact this
    · refine Rn.iconst (v := 1) (pc' := 42) rfl (by decide) rfl ?_
      refine Rn.step (pc' := 46) rfl rfl ?_
      refine Rn.step (pc' := 48) rfl rfl ?_
      refine Rn.step (pc' := 49) rfl rfl ?_
      refine Rn.cgw (pc' := 52) rfl ho rfl ?_
      refine Rn.iconst (v := 24) (pc' := 54) rfl (by decide) rfl ?_
      refine Rn.step (pc' := 56) rfl rfl ?_
      refine Rn.iadd (pc' := 57) rfl rfl ?_
      refine Rn.cwld (k := 24 + k) (pc' := 58) rfl ho (by simp only [nI_lit, nI_add, pk_mul, Nat.zero_add]) (by omega) (hr.wr k hk2) (by decide) rfl ?_
      refine Rn.step (pc' := 59) rfl rfl ?_
      refine Rn.icmp_ne (pc1 := 67) (pc2 := 62) rfl rfl rfl (fun h59 => ?_) (fun h59 => ?_)
      · refine Rn.step (pc' := 70) rfl rfl ?_
        refine Rn.step (pc' := 73) rfl rfl ?_
        refine Rn.step (pc' := 15) rfl rfl ?_
        have e : mWk s x (k + 1) = mWk s x k + 1 := by rw [mWk, mW1, if_pos (Or.inl h59)]
        have := l_H_bare (d := d) ho hl hr (x := x) (k + 1) (by omega) (.int 1)
        rw [e, ← nI_i1 k] at this
        exact this
      · refine Rn.step (pc' := 64) rfl rfl ?_
        refine Rn.ifc_ne (pc1 := 70) (pc2 := 67) rfl rfl rfl (fun h64 => ?_) (fun h64 => absurd h64 (by decide))
        refine Rn.step (pc' := 73) rfl rfl ?_
        refine Rn.step (pc' := 15) rfl rfl ?_
        have e : mWk s x (k + 1) = mWk s x k + 0 := by rw [mWk, mW1, if_neg (fun z => z.elim (fun y => y h59) (fun y => y (hl.so ▸ Int32.not_le.mp h38)))]
        have := l_H_bare (d := d) ho hl hr (x := x) (k + 1) (by omega) (.int 1)
        rw [e, ← nI_i1 k] at this
        rw [Int32.add_zero] at this
        exact this
termination_by 2 - k
theorem c_H_bare {d P Bn Fn Wn : Nat} {sec : Int32} (ho : isW o) (hl : LR P Bn Fn Wn s F I) (hr : WR gg Bn s w) (hse : F 14 4 = sec) (x : Int32) : Cl d j_Hours_bareFeet [.ref 14, .ref o, .int x] (CWm m0 F I L R H o w) (Pi (mWf s sec x) (CWm m0 F I L R H o w)) := by
  show Rn d j_Hours_bareFeet 0 _ _ _ _
  refine Rn.step (pc' := 1) rfl rfl ?_
  refine Rn.getf (pc' := 4) rfl rfl rfl rfl rfl ?_
  refine Rn.step (pc' := 5) rfl rfl ?_
  refine Rn.icmp_ne (pc1 := 10) (pc2 := 8) rfl rfl rfl (fun h5 => ?_) (fun h5 => ?_)
  · refine Rn.iconst (v := 0) (pc' := 11) rfl (by decide) rfl ?_
    refine Rn.step (pc' := 12) rfl rfl ?_
    refine Rn.iconst (v := 0) (pc' := 13) rfl (by decide) rfl ?_
    refine Rn.step (pc' := 15) rfl rfl ?_
    have e : mWf s sec x = mWk s x 2 := by
      unfold mWf
      rw [if_neg (fun z => h5 (hse.trans z.symm))]
    rw [e]
    exact l_H_bare ho hl hr 0 (by omega) _
  · refine Rn.iconst (v := 0) (pc' := 9) rfl (by decide) rfl ?_
    exact Rn.iret rfl (rfl) (⟨by
        unfold mWf
        rw [if_pos (h5.symm.trans hse)], rfl⟩)
/-- how many froze is a field of the hours -/
def fzF (F : Nat → Nat → Int32) (z : Int32) : Nat → Nat → Int32 := va_up F 14 (upd (F 14) 5 z)
theorem fzF_n (F : Nat → Nat → Int32) (z : Int32) {k : Nat} (h : k ≠ 14) : fzF F z k = F k := up_ne F _ h
theorem fzF_5 (F : Nat → Nat → Int32) (z : Int32) : fzF F z 14 5 = z := rfl
theorem fzF_4 (F : Nat → Nat → Int32) (z : Int32) : fzF F z 14 4 = F 14 4 := rfl
theorem fzF_u (F : Nat → Nat → Int32) (z y : Int32) : fzF (fzF F z) y = fzF F y := by
  unfold fzF
  rw [up_up, va_up_self, upd_u]
theorem fzF_i (F : Nat → Nat → Int32) : fzF F (F 14 5) = F := by
  unfold fzF
  rw [upd_id, up_id]
theorem LR.z {P Bn Fn Wn : Nat} {s : Nat → Int32} {F I : Nat → Nat → Int32} (h : LR P Bn Fn Wn s F I) (z : Int32) : LR P Bn Fn Wn s (fzF F z) I := h
theorem HB.zf {P : Nat} {E : xEv} {s : Nat → Int32} {F I : Nat → Nat → Int32} {H : Value} {m0 : xM} (h : HB P E s F I H m0) (z : Int32) : HB P E s (fzF F z) I H m0 := h
theorem mWf_in (s : Nat → Int32) (sec x : Int32) : ∃ u, u ≤ 2 ∧ mWf s sec x = nI u := by
  have h1 : ∀ k, mW1 s x k = 0 ∨ mW1 s x k = 1 := fun k => by
    unfold mW1
    split
    · exact Or.inr rfl
    · exact Or.inl rfl
  unfold mWf
  split
  · exact ⟨0, by omega, rfl⟩
  · rw [show mWk s x 2 = 0 + mW1 s x 0 + mW1 s x 1 from rfl]
    rcases h1 0 with a | a <;> rcases h1 1 with b | b <;> rw [a, b]
    · exact ⟨0, by omega, by decide⟩
    · exact ⟨1, by omega, by decide⟩
    · exact ⟨1, by omega, by decide⟩
    · exact ⟨2, by omega, by decide⟩
theorem mCl_pos {n : Int32} (h : ¬ n < 0) : mCl n = if 99 < n then 99 else n := by
  unfold mCl
  rw [if_neg h]
theorem mCl_hm {q : Nat} (h : q < 100) : mCl (nI q - 4) = if nI q - 4 < 0 then 0 else nI q - 4 := by
  have : ∀ q, q < 100 → mCl (nI q - 4) = if nI q - 4 < 0 then 0 else nI q - 4 := by decide +kernel
  exact this q h
theorem hm_60 {q : Nat} (h : q < 60) : mCl (nI q - 4) < 60 := by
  have : ∀ q, q < 60 → mCl (nI q - 4) < 60 := by decide +kernel
  exact this q h
set_option maxHeartbeats 4000000 in
theorem f_c82 {d P Bn Fn Wn b : Nat} {fl sec mu wv p4 : Int32} (hd : 1 ≤ d) (ho : isW o) (hl : LR P Bn Fn Wn s F I) (hL : WL P Bn Fn Wn s) (hg : WD P Bn s) (hr : WR gg Bn s w) (hse : F 14 4 = sec) (hb : b < Bn) (hcn : mCl (mCn s sec mu b) = if 99 < s (10 + 6 * b + 3) + mWf s sec (nI b) * wv then 99 else s (10 + 6 * b + 3) + mWf s sec (nI b) * wv) (x6 : Value) : Rn d j_Hours_chill 82 [.ref 14, .ref o, .int (nI b), .int fl, .int p4, .int (s (10 + 6 * b + 3)), x6] [.int wv] (CWm m0 F I L R H o w) (fun r m2 => r = none ∧ ∃ w2, m2 = CWm m0 (fzF F (mCz s sec mu b (F 14 5))) I L R H o w2 ∧ WR gg Bn (mCh s sec mu b) w2) := by
  have hb6 := hL.b6
  refine Rn.step (pc' := 84) rfl rfl ?_
  refine Rn.step (pc' := 86) rfl rfl ?_
  refine Rn.step (pc' := 87) rfl rfl ?_
  refine Rn.step (pc' := 88) rfl rfl ?_
  refine Rn.step (pc' := 89) rfl rfl ?_
  refine Rn.vi (pc' := 92) rfl (by decide) (by omega) rfl rfl rfl (c_H_bare ho hl hr hse (nI b)) ?_
  refine Rn.step (pc' := 94) rfl rfl ?_
  refine Rn.imul (pc' := 95) rfl rfl ?_
  refine Rn.iadd (pc' := 96) rfl rfl ?_
  refine Rn.iconst (v := 99) (pc' := 98) rfl (by decide) rfl ?_
  refine Rn.si (pc' := 101) rfl (by decide) (by omega) rfl rfl (c_min _ _) ?_
  rw [← hcn]
  refine Rn.step (pc' := 103) rfl rfl ?_
  refine Rn.step (pc' := 104) rfl rfl ?_
  refine Rn.cgw (pc' := 107) rfl ho rfl ?_
  refine Rn.iconst (v := 6) (pc' := 109) rfl (by decide) rfl ?_
  refine Rn.step (pc' := 110) rfl rfl ?_
  refine Rn.iadd (pc' := 111) rfl rfl ?_
  refine Rn.step (pc' := 113) rfl rfl ?_
  refine Rn.cwst (k := 6 + b) (pc' := 114) rfl ho (by simp only [nI_lit, nI_add, pk_mul, Nat.zero_add]) (by omega) (by decide) rfl ?_
  refine Rn.step (pc' := 116) rfl rfl ?_
  refine Rn.iconst (v := 60) (pc' := 118) rfl (by decide) rfl ?_
  refine Rn.icmp_lt (pc1 := 153) (pc2 := 121) rfl rfl rfl (fun h118 => ?_) (fun h118 => ?_)
  · exact Rn.vret rfl (⟨rfl, _, by
          unfold mCz
          rw [if_pos (Or.inl h118), fzF_i], by
          unfold mCh
          rw [if_pos (Or.inl h118)]
          exact hr.uCh hL.b6 hb _⟩)
  · refine Rn.step (pc' := 122) rfl rfl ?_
    refine Rn.cgw (pc' := 125) rfl ho rfl ?_
    refine Rn.iconst (v := 12) (pc' := 127) rfl (by decide) rfl ?_
    refine Rn.step (pc' := 128) rfl rfl ?_
    refine Rn.iadd (pc' := 129) rfl rfl ?_
    refine Rn.cwld (k := 12 + b) (pc' := 130) rfl ho (by simp only [nI_lit, nI_add, pk_mul, Nat.zero_add]) (by omega) ((upd_n _ _ (by omega)).trans (hr.fz b hb)) (by decide) rfl ?_
    refine Rn.ifc_ne (pc1 := 153) (pc2 := 133) rfl rfl rfl (fun h130 => ?_) (fun h130 => ?_)
    · exact Rn.vret rfl (⟨rfl, _, by
            unfold mCz
            rw [if_pos (Or.inr ((hg.fz b hb).resolve_left h130)), fzF_i], by
            unfold mCh
            rw [if_pos (Or.inr ((hg.fz b hb).resolve_left h130))]
            exact hr.uCh hL.b6 hb _⟩)
    · refine Rn.step (pc' := 134) rfl rfl ?_
      refine Rn.cgw (pc' := 137) rfl ho rfl ?_
      refine Rn.iconst (v := 12) (pc' := 139) rfl (by decide) rfl ?_
      refine Rn.step (pc' := 140) rfl rfl ?_
      refine Rn.iadd (pc' := 141) rfl rfl ?_
      refine Rn.iconst (v := 1) (pc' := 142) rfl (by decide) rfl ?_
      refine Rn.cwst (k := 12 + b) (pc' := 143) rfl ho (by simp only [nI_lit, nI_add, pk_mul, Nat.zero_add]) (by omega) (by decide) rfl ?_
      refine Rn.step (pc' := 144) rfl rfl ?_
      refine Rn.step (pc' := 145) rfl rfl ?_
      refine Rn.getf (pc' := 148) rfl rfl rfl rfl rfl ?_
      refine Rn.iconst (v := 1) (pc' := 149) rfl (by decide) rfl ?_
      refine Rn.iadd (pc' := 150) rfl rfl ?_
      refine Rn.cput (pc' := 153) rfl rfl rfl rfl rfl (by decide) rfl ?_
      exact Rn.vret rfl (⟨rfl, _, by
            unfold mCz
            rw [if_neg (fun z => z.elim h118 (fun y => absurd (h130.symm.trans y) (by decide)))]
            rfl, by
            unfold mCh
            rw [if_neg (fun z => z.elim h118 (fun y => absurd (h130.symm.trans y) (by decide)))]
            exact (hr.uCh hL.b6 hb _).uFz hL.b6 hb _⟩)
set_option maxHeartbeats 4000000 in
theorem c_H_chill {d P Bn Fn Wn b : Nat} {fl sec : Int32} (hd : 1 ≤ d) (ho : isW o) (hl : LR P Bn Fn Wn s F I) (hL : WL P Bn Fn Wn s) (hg : WD P Bn s) (hr : WR gg Bn s w) (hse : F 14 4 = sec) (hb : b < Bn) : Cl d j_Hours_chill [.ref 14, .ref o, .int (nI b), .int fl] (CWm m0 F I L R H o w) (fun r m2 => r = none ∧ ∃ w2, m2 = CWm m0 (fzF F (mCz s sec (if fl = 0 then (1 : Int32) else 2) b (F 14 5))) I L R H o w2 ∧ WR gg Bn (mCh s sec (if fl = 0 then (1 : Int32) else 2) b) w2) := by
  show Rn d j_Hours_chill 0 _ _ _ _
  have hb6 := hL.b6
  have hp10 := hL.p10
  obtain ⟨p, hp, hpe⟩ := hg.pl b hb
  refine Rn.step (pc' := 1) rfl rfl ?_
  refine Rn.cgw (pc' := 4) rfl ho rfl ?_
  refine Rn.iconst (v := 0) (pc' := 5) rfl (by decide) rfl ?_
  refine Rn.step (pc' := 6) rfl rfl ?_
  refine Rn.iadd (pc' := 7) rfl rfl ?_
  refine Rn.cwld (k := b) (pc' := 8) rfl ho (by simp only [nI_lit, nI_add, pk_mul, Nat.zero_add]) (by omega) (hr.pl b hb) (by decide) rfl ?_
  refine Rn.step (pc' := 10) rfl rfl ?_
  refine Rn.step (pc' := 11) rfl rfl ?_
  refine Rn.cgw (pc' := 14) rfl ho rfl ?_
  refine Rn.iconst (v := 6) (pc' := 16) rfl (by decide) rfl ?_
  refine Rn.step (pc' := 17) rfl rfl ?_
  refine Rn.iadd (pc' := 18) rfl rfl ?_
  refine Rn.cwld (k := 6 + b) (pc' := 19) rfl ho (by simp only [nI_lit, nI_add, pk_mul, Nat.zero_add]) (by omega) (hr.ch b hb) (by decide) rfl ?_
  refine Rn.step (pc' := 21) rfl rfl ?_
  refine Rn.step (pc' := 23) rfl rfl ?_
  refine Rn.step (pc' := 24) rfl rfl ?_
  refine Rn.getf (pc' := 27) rfl rfl rfl rfl rfl ?_
  refine Rn.getf (pc' := 30) rfl rfl rfl rfl rfl ?_
  refine Rn.step (pc' := 31) rfl rfl ?_
  refine Rn.cald (k := b) (pc' := 32) rfl rfl (by simp only [nI_lit, nI_add, pk_mul, Nat.zero_add]) (by omega) (((hl).v ho _).hm b hb) (by decide) rfl ?_
  refine Rn.icmp_ne (pc1 := 53) (pc2 := 35) rfl rfl rfl (fun h32 => ?_) (fun h32 => ?_)
  · have hnh : ¬ s (10 + 6 * b) = s (10 + 6 * b + 1) := h32
    obtain ⟨u, hu, hue⟩ := mWf_in s sec (nI b)
    obtain ⟨c, hc1, hc2, hc3⟩ := hg.ch b hb
    obtain ⟨zz, hz1, hz2⟩ := hL.we p hp
    refine Rn.step (pc' := 54) rfl rfl ?_
    refine Rn.ifc_eq (pc1 := 72) (pc2 := 57) rfl rfl rfl (fun h54 => ?_) (fun h54 => ?_)
    · refine Rn.step (pc' := 73) rfl rfl ?_
      refine Rn.getf (pc' := 76) rfl rfl rfl rfl rfl ?_
      refine Rn.getf (pc' := 79) rfl rfl rfl rfl rfl ?_
      refine Rn.step (pc' := 81) rfl rfl ?_
      refine Rn.cald (k := p) (pc' := 82) rfl rfl (hpe) (by omega) (((hl).v ho _).we p hp) (by decide) rfl ?_
      refine f_c82 hd ho hl hL hg hr hse hb ?_ _
      have e1 : mCn s sec (if fl = 0 then (1 : Int32) else 2) b = s (10 + 6 * b + 3) + mWf s sec (nI b) * s (100 + p) := by
        unfold mCn
        rw [if_neg hnh, if_pos h54, hpe, nI_clamp (by omega)]
        rw [Int32.one_mul]
      rw [e1]
      refine mCl_pos ?_
      rw [hc2, hue, hz2]
      rw [pk_mul, nI_add]
      exact nI_pos (by have : u * zz ≤ 2 * 9 := Nat.mul_le_mul hu (by omega); omega)
    · refine Rn.iconst (v := 2) (pc' := 58) rfl (by decide) rfl ?_
      refine Rn.step (pc' := 59) rfl rfl ?_
      refine Rn.getf (pc' := 62) rfl rfl rfl rfl rfl ?_
      refine Rn.getf (pc' := 65) rfl rfl rfl rfl rfl ?_
      refine Rn.step (pc' := 67) rfl rfl ?_
      refine Rn.cald (k := p) (pc' := 68) rfl rfl (hpe) (by omega) (((hl).v ho _).we p hp) (by decide) rfl ?_
      refine Rn.imul (pc' := 69) rfl rfl ?_
      refine Rn.step (pc' := 82) rfl rfl ?_
      refine f_c82 hd ho hl hL hg hr hse hb ?_ _
      have e1 : mCn s sec (if fl = 0 then (1 : Int32) else 2) b = s (10 + 6 * b + 3) + mWf s sec (nI b) * (2 * s (100 + p)) := by
        unfold mCn
        rw [if_neg hnh, if_neg h54, hpe, nI_clamp (by omega)]
        rw [Int32.mul_comm (2 : Int32) (mWf s sec (nI b)), Int32.mul_assoc]
      rw [e1]
      refine mCl_pos ?_
      rw [hc2, hue, hz2]
      rw [show (2 : Int32) = nI 2 from rfl, pk_mul, pk_mul, nI_add]
      exact nI_pos (by have : u * (2 * zz) ≤ 2 * (2 * 9) := Nat.mul_le_mul hu (by omega); omega)
  · refine Rn.step (pc' := 36) rfl rfl ?_
    refine Rn.cgw (pc' := 39) rfl ho rfl ?_
    refine Rn.iconst (v := 6) (pc' := 41) rfl (by decide) rfl ?_
    refine Rn.step (pc' := 42) rfl rfl ?_
    refine Rn.iadd (pc' := 43) rfl rfl ?_
    refine Rn.step (pc' := 45) rfl rfl ?_
    refine Rn.iconst (v := 4) (pc' := 46) rfl (by decide) rfl ?_
    refine Rn.isub (pc' := 47) rfl rfl ?_
    refine Rn.iconst (v := 0) (pc' := 48) rfl (by decide) rfl ?_
    refine Rn.si (pc' := 51) rfl (by decide) (by omega) rfl rfl (c_max _ _) ?_
    refine Rn.cwst (k := 6 + b) (pc' := 52) rfl ho (by simp only [nI_lit, nI_add, pk_mul, Nat.zero_add]) (by omega) (by decide) rfl ?_
    exact Rn.vret rfl (⟨rfl, _, by
        obtain ⟨c, hc1, hc2, hc3⟩ := hg.ch b hb
        have e1 : mCn s sec (if fl = 0 then (1 : Int32) else 2) b = s (10 + 6 * b + 3) - 4 := by
          unfold mCn
          rw [if_pos h32]
        have hcd : mCl (mCn s sec (if fl = 0 then (1 : Int32) else 2) b) < 60 ∨ s (10 + 6 * b + 4) = 1 := by
          rw [e1, hc2]
          exact hc3.imp hm_60 id
        unfold mCz
        rw [if_pos hcd, fzF_i], by
        obtain ⟨c, hc1, hc2, hc3⟩ := hg.ch b hb
        have e1 : mCn s sec (if fl = 0 then (1 : Int32) else 2) b = s (10 + 6 * b + 3) - 4 := by
          unfold mCn
          rw [if_pos h32]
        have hcd : mCl (mCn s sec (if fl = 0 then (1 : Int32) else 2) b) < 60 ∨ s (10 + 6 * b + 4) = 1 := by
          rw [e1, hc2]
          exact hc3.imp hm_60 id
        unfold mCh
        rw [if_pos hcd, e1, hc2, mCl_hm hc1]
        exact hr.uCh hL.b6 hb (if nI c - 4 < 0 then 0 else nI c - 4)⟩)
theorem WR.gHm {gg : Prop} {Bn b : Nat} {s w : Nat → Int32} (h : WR gg Bn s w) (hB : Bn ≤ 6) (hb : b < Bn) : WR gg Bn (gHm s b) (upd (upd (upd w b (s (10 + 6 * b + 1))) (6 + b) 0) (12 + b) 0) := ((h.uPl hB hb _).uCh hB hb _).uFz hB hb _
theorem pHm_fx (s : Nat → Int32) : ∀ k, k ≤ 6 → FX s (pHm s k)
  | 0, _ => FX.refl s
  | k + 1, h => (pHm_fx s k (by omega)).trans (gHm_fx _ (by omega))
theorem l_H_turn {d P Bn Fn Wn : Nat} (ho : isW o) (hl : LR P Bn Fn Wn s F I) (hL : WL P Bn Fn Wn s) (k : Nat) (hk : k ≤ Bn) (w : Nat → Int32) (hr : WR gg Bn (pHm s k) w) : Rn d j_Hours_turn 56 [.ref 14, .ref o, .int (nI k)] [] (CWm m0 F I L R H o w) (fun r m2 => r = none ∧ ∃ w2, m2 = CWm m0 F I L R H o w2 ∧ WR gg Bn (pHm s Bn) w2) := by
  refine Rn.step (pc' := 57) rfl rfl ?_
  refine Rn.step (pc' := 58) rfl rfl ?_
  refine Rn.getf (pc' := 61) rfl rfl rfl rfl rfl ?_
  refine Rn.getf (pc' := 64) rfl rfl rfl rfl rfl ?_
  refine Rn.icmp_ge (pc1 := 110) (pc2 := 67) rfl rfl rfl (fun h64 => ?_) (fun h64 => ?_)
  · obtain rfl := nI_up (by have := hL.b6; omega) hk (by rw [hl.b, hL.b] at h64; exact h64)
    exact Rn.vret rfl (⟨rfl, w, rfl, hr⟩)
  · have hk2 := nI_dn (by have := hL.b6; omega) hk (by rw [hl.b, hL.b] at h64; exact h64)
    have hb6 := hL.b6
    refine Rn.step (pc' := 68) rfl rfl ?_
    refine Rn.cgw (pc' := 71) rfl ho rfl ?_
    refine Rn.iconst (v := 0) (pc' := 72) rfl (by decide) rfl ?_
    refine Rn.step (pc' := 73) rfl rfl ?_
    refine Rn.iadd (pc' := 74) rfl rfl ?_
    refine Rn.step (pc' := 75) rfl rfl ?_
    refine Rn.getf (pc' := 78) rfl rfl rfl rfl rfl ?_
    refine Rn.getf (pc' := 81) rfl rfl rfl rfl rfl ?_
    refine Rn.step (pc' := 82) rfl rfl ?_
    refine Rn.cald (k := k) (pc' := 83) rfl rfl (by simp only [nI_lit, nI_add, pk_mul, Nat.zero_add]) (by omega) ((((hl.fx hL.b6 (pHm_fx s k (by omega))).v ho _).hm k hk2)) (by decide) rfl ?_
    refine Rn.cwst (k := k) (pc' := 84) rfl ho (by simp only [nI_lit, nI_add, pk_mul, Nat.zero_add]) (by omega) (by decide) rfl ?_
    refine Rn.step (pc' := 85) rfl rfl ?_
    refine Rn.cgw (pc' := 88) rfl ho rfl ?_
    refine Rn.iconst (v := 6) (pc' := 90) rfl (by decide) rfl ?_
    refine Rn.step (pc' := 91) rfl rfl ?_
    refine Rn.iadd (pc' := 92) rfl rfl ?_
    refine Rn.iconst (v := 0) (pc' := 93) rfl (by decide) rfl ?_
    refine Rn.cwst (k := 6 + k) (pc' := 94) rfl ho (by simp only [nI_lit, nI_add, pk_mul, Nat.zero_add]) (by omega) (by decide) rfl ?_
    refine Rn.step (pc' := 95) rfl rfl ?_
    refine Rn.cgw (pc' := 98) rfl ho rfl ?_
    refine Rn.iconst (v := 12) (pc' := 100) rfl (by decide) rfl ?_
    refine Rn.step (pc' := 101) rfl rfl ?_
    refine Rn.iadd (pc' := 102) rfl rfl ?_
    refine Rn.iconst (v := 0) (pc' := 103) rfl (by decide) rfl ?_
    refine Rn.cwst (k := 12 + k) (pc' := 104) rfl ho (by simp only [nI_lit, nI_add, pk_mul, Nat.zero_add]) (by omega) (by decide) rfl ?_
    refine Rn.step (pc' := 107) rfl rfl ?_
    refine Rn.step (pc' := 56) rfl rfl ?_
    exact Rn.ls3 rfl rfl (congrArg Value.int (nI_i1 k)) (l_H_turn ho hl hL (k + 1) (by omega) _ (hr.gHm hL.b6 hk2))
termination_by Bn - k
theorem c_H_turn {d P Bn Fn Wn : Nat} (hd : 1 ≤ d) (ho : isW o) (hl : LR P Bn Fn Wn s F I) (hL : WL P Bn Fn Wn s) (hg : WD P Bn s) (hr : WR gg Bn s w) (hD : ∃ D, D < 999 ∧ s 6 = nI D) : Cl d j_Hours_turn [.ref 14, .ref o] (CWm m0 F I L R H o w) (fun r m2 => r = none ∧ ∃ w2, m2 = CWm m0 F I L R H o w2 ∧ WR gg Bn (pTn Bn s) w2) := by
  show Rn d j_Hours_turn 0 _ _ _ _
  obtain ⟨hh, hh1, hh2⟩ := hg.hr
  obtain ⟨D, hD1, hD2⟩ := hD
  refine Rn.step (pc' := 1) rfl rfl ?_
  refine Rn.cgw (pc' := 4) rfl ho rfl ?_
  refine Rn.iconst (v := 30) (pc' := 6) rfl (by decide) rfl ?_
  refine Rn.cwld (k := 30) (pc' := 7) rfl ho (by simp only [nI_lit, nI_add, pk_mul, Nat.zero_add]) (by omega) (hr.h) (by decide) rfl ?_
  refine Rn.iconst (v := 23) (pc' := 9) rfl (by decide) rfl ?_
  refine Rn.icmp_ge (pc1 := 24) (pc2 := 12) rfl rfl rfl (fun h9 => ?_) (fun h9 => ?_)
  · refine Rn.step (pc' := 25) rfl rfl ?_
    refine Rn.cgw (pc' := 28) rfl ho rfl ?_
    refine Rn.iconst (v := 30) (pc' := 30) rfl (by decide) rfl ?_
    refine Rn.iconst (v := 0) (pc' := 31) rfl (by decide) rfl ?_
    refine Rn.cwst (k := 30) (pc' := 32) rfl ho (by simp only [nI_lit, nI_add, pk_mul, Nat.zero_add]) (by omega) (by decide) rfl ?_
    refine Rn.step (pc' := 33) rfl rfl ?_
    refine Rn.cgw (pc' := 36) rfl ho rfl ?_
    refine Rn.iconst (v := 31) (pc' := 38) rfl (by decide) rfl ?_
    refine Rn.step (pc' := 39) rfl rfl ?_
    refine Rn.cgw (pc' := 42) rfl ho rfl ?_
    refine Rn.iconst (v := 31) (pc' := 44) rfl (by decide) rfl ?_
    refine Rn.cwld (k := 31) (pc' := 45) rfl ho (by simp only [nI_lit, nI_add, pk_mul, Nat.zero_add]) (by omega) ((upd_n _ _ (by omega)).trans hr.d) (by decide) rfl ?_
    refine Rn.iconst (v := 1) (pc' := 46) rfl (by decide) rfl ?_
    refine Rn.iadd (pc' := 47) rfl rfl ?_
    refine Rn.iconst (v := 999) (pc' := 50) rfl (by decide) rfl ?_
    refine Rn.si (pc' := 53) rfl (by decide) (by omega) rfl rfl (c_min _ _) ?_
    refine Rn.cwst (k := 31) (pc' := 54) rfl ho (by simp only [nI_lit, nI_add, pk_mul, Nat.zero_add]) (by omega) (by decide) rfl ?_
    refine Rn.iconst (v := 0) (pc' := 55) rfl (by decide) rfl ?_
    refine Rn.step (pc' := 56) rfl rfl ?_
    have h23 : hh = 23 := by
      rw [hh2] at h9
      have := (nI_leI (a := 23) (b := hh) (by omega) (by omega)).mp h9
      omega
    have e0 : upd (upd s 5 (s 5 + 1)) 5 0 = upd s 5 0 := upd_u _ _ _ _
    have e : pTn Bn s = pHm (upd (upd s 5 0) 6 (s 6 + 1)) Bn := by
      unfold pTn
      rw [upd_s, if_neg (by
        rw [hh2, h23]
        decide), e0, upd_n _ _ (by omega)]
    have emin : (if (999 : Int32) < s 6 + 1 then 999 else s 6 + 1) = s 6 + 1 := by
      rw [if_neg]
      rw [hD2, nI_1]
      exact fun z => absurd ((nI_ltI (a := 999) (b := D + 1) (by omega) (by omega)).mp z) (by omega)
    rw [e, emin]
    have f1 : FX s (upd (upd s 5 0) 6 (s 6 + 1)) := (FX.up s _ _ (by unfold fxc; omega)).trans (FX.up _ _ _ (by unfold fxc; omega))
    exact l_H_turn ho (hl.fx hL.b6 f1) (hL.fx f1) 0 (by omega) _ ((hr.uH hL.b6 0).uD hL.b6 _)
  · refine Rn.step (pc' := 13) rfl rfl ?_
    refine Rn.cgw (pc' := 16) rfl ho rfl ?_
    refine Rn.iconst (v := 30) (pc' := 18) rfl (by decide) rfl ?_
    refine Rn.step (pc' := 19) rfl rfl ?_
    refine Rn.cwld (k := 30) (pc' := 20) rfl ho (by simp only [nI_lit, nI_add, pk_mul, Nat.zero_add]) (by omega) (hr.h) (by decide) rfl ?_
    refine Rn.iconst (v := 1) (pc' := 21) rfl (by decide) rfl ?_
    refine Rn.iadd (pc' := 22) rfl rfl ?_
    refine Rn.cwst (k := 30) (pc' := 23) rfl ho (by simp only [nI_lit, nI_add, pk_mul, Nat.zero_add]) (by omega) (by decide) rfl ?_
    exact Rn.vret rfl (⟨rfl, _, rfl, by
        unfold pTn
        rw [upd_s, if_pos (by
          rw [hh2] at h9 ⊢
          rw [nI_1]
          have := mt (nI_leI (a := 23) (b := hh) (by omega) (by omega)).mpr h9
          exact (nI_ltI (a := hh + 1) (b := 24) (by omega) (by omega)).mpr (by omega))]
        exact hr.uH hL.b6 _⟩)
end CE
