/-! THE MODEL: its reader: numberHere, wordHere. -/
section MT2
variable {m0 : xM} {v : Nat → Int32} {dx : Int64} {A : Nat → Nat → Int32} {LA : Nat → Nat → Int64} {s : Nat → Int32}
section T2
variable {T : Nat → Int32} {n p : Nat}
theorem kd2_iff (hT : ∀ i, -128 ≤ T i ∧ T i ≤ 127) : (p < n ∧ 48 ≤ T p ∧ T p ≤ 57) ↔ kdE T n p = 2 := by
  constructor
  · intro h
    have e : fcE T p = T p := by255 _ (hT p).1 (hT p).2 (Int32.le_trans (by decide) h.2.1)
    refine kd2 (by omega) ?_ ?_
    · rw [e]
      exact fun z => absurd (Int32.le_trans z.1 h.2.2) (by decide)
    · rw [e]
      exact h.2
  · intro h
    have hn : ¬ n ≤ p := fun z => by rw [kd0 z] at h; exact absurd h (by decide)
    have h1 : ¬ (97 ≤ fcE T p ∧ fcE T p ≤ 122) := fun z => by rw [kd1 hn z] at h; exact absurd h (by decide)
    have h2 : 48 ≤ fcE T p ∧ fcE T p ≤ 57 := by
      by_cases k : 48 ≤ fcE T p ∧ fcE T p ≤ 57
      · exact k
      · rw [kd3 hn h1 k] at h
        exact absurd h (by decide)
    have e : fcE T p = T p := by255b (hT p).1 (hT p).2 (by decide) (by decide) h2
    rw [e] at h2
    exact ⟨by omega, h2⟩
/-- a number of at most five digits that lies between -/
abbrev nbE (T : Nat → Int32) (n p : Nat) (lo hi : Int32) : Prop := tkE T n p - p ≤ 5 ∧ lo ≤ vlE T n p ∧ vlE T n p ≤ hi
theorem l_X_num {d q : Nat} {lo hi_ z : Int32} (hn : v 1 = nI n) (h4 : n ≤ 400) (hw : v 9 = 0) (hd : 1 ≤ d) (i : Nat) (x : Int32) (hi : p ≤ i ∧ i ≤ n) (hq : rnE 48 57 (A 51) n i = q) (hx : dvE (A 51) (min 5 (q - p) - (i - p)) i x = z) : Rn d j_M_numberHere 34 [.ref 50, .int lo, .int hi_, .int (nI p), .int x] [] (MM m0 (upd v 8 (nI i)) dx A LA) (fun r m2 => (q - p ≤ 5 ∧ lo ≤ z ∧ z ≤ hi_ → r = some (.int 1) ∧ m2 = MM m0 (upd (upd v 8 (nI q)) 10 z) dx A LA) ∧ (¬ (q - p ≤ 5 ∧ lo ≤ z ∧ z ≤ hi_) → r = some (.int 0) ∧ m2 = MM m0 (upd (upd (upd v 8 (nI q)) 10 z) 9 (nI (1 + 8 * p + 1))) dx A LA)) := by
  refine Rn.step (pc' := 35) rfl rfl ?_
  refine Rn.step (pc' := 36) rfl rfl ?_
  refine Rn.getf (pc' := 39) rfl rfl rfl rfl rfl ?_
  refine Rn.vi (pc' := 42) rfl (by decide) (by omega) rfl rfl rfl (x_M_isDigit (n := n) (k := i) (by exact hn) h4 (by omega)) ?_
  refine Rn.ifp_eq (pc1 := 88) (pc2 := 45) rfl rfl rfl (fun h42 => ?_) (fun h42 => ?_)
  · have hqi : q = i := by rw [← hq]; exact rnE_z h42
    subst hqi
    have hz : x = z := by
      rw [show min 5 (q - p) - (q - p) = 0 by omega] at hx
      exact hx
    subst hz
    refine Rn.step (pc' := 89) rfl rfl ?_
    refine Rn.step (pc' := 91) rfl rfl ?_
    refine Rn.mput (pc' := 94) rfl rfl rfl rfl (by decide) rfl ?_
    refine Rn.step (pc' := 95) rfl rfl ?_
    refine Rn.getf (pc' := 98) rfl rfl rfl rfl rfl ?_
    refine Rn.step (pc' := 99) rfl rfl ?_
    refine Rn.isub (pc' := 100) rfl rfl ?_
    rw [show upd (upd v 8 (nI q)) (778 % 64) x 8 - nI p = nI (q - p) from nI_subw hi.1]
    refine Rn.iconst (v := 5) (pc' := 101) rfl (by decide) rfl ?_
    refine Rn.icmp_gt (pc1 := 117) (pc2 := 104) rfl rfl rfl (fun h101 => ?_) (fun h101 => ?_)
    · refine Rn.step (pc' := 118) rfl rfl ?_
      refine Rn.iconst (v := 1) (pc' := 119) rfl (by decide) rfl ?_
      refine Rn.step (pc' := 120) rfl rfl ?_
      refine Rn.vi (pc' := 123) rfl (by decide) (by omega) rfl rfl rfl (x_M_fails (k := 1) (p := p) (by exact hw)) ?_
      refine Rn.ifc_eq (pc1 := 130) (pc2 := 126) rfl rfl rfl (fun h123 => ?_) (fun h123 => absurd (rfl) h123)
      refine Rn.iconst (v := 0) (pc' := 131) rfl (by decide) rfl ?_
      exact Rn.iret rfl (rfl) (⟨fun z => absurd z.1 (fun z2 => absurd h101 (Int32.not_lt.mpr ((nI_leI (a := q - p) (b := 5) (by omega) (by omega)).mpr z2))), fun _ => ⟨rfl, rfl⟩⟩)
    · refine Rn.step (pc' := 106) rfl rfl ?_
      refine Rn.i2l (pc' := 107) rfl rfl ?_
      refine Rn.step (pc' := 108) rfl rfl ?_
      refine Rn.i2l (pc' := 109) rfl rfl ?_
      refine Rn.step (pc' := 110) rfl rfl ?_
      refine Rn.i2l (pc' := 111) rfl rfl ?_
      refine Rn.si (pc' := 114) rfl (by decide) (by omega) rfl rfl (c_M_inI _ _ _ rfl rfl) ?_
      refine Rn.ifp_ne (pc1 := 126) (pc2 := 117) rfl rfl rfl (fun h114 => ?_) (fun h114 => ?_)
      · refine Rn.iconst (v := 1) (pc' := 127) rfl (by decide) rfl ?_
        refine Rn.step (pc' := 131) rfl rfl ?_
        exact Rn.iret rfl (rfl) (⟨fun _ => ⟨rfl, rfl⟩, fun z => absurd ⟨(nI_leI (a := q - p) (b := 5) (by omega) (by omega)).mp (Int32.not_lt.mp h101), h114⟩ z⟩)
      · refine Rn.step (pc' := 118) rfl rfl ?_
        refine Rn.iconst (v := 1) (pc' := 119) rfl (by decide) rfl ?_
        refine Rn.step (pc' := 120) rfl rfl ?_
        refine Rn.vi (pc' := 123) rfl (by decide) (by omega) rfl rfl rfl (x_M_fails (k := 1) (p := p) (by exact hw)) ?_
        refine Rn.ifc_eq (pc1 := 130) (pc2 := 126) rfl rfl rfl (fun h123 => ?_) (fun h123 => absurd (rfl) h123)
        refine Rn.iconst (v := 0) (pc' := 131) rfl (by decide) rfl ?_
        exact Rn.iret rfl (rfl) (⟨fun z => absurd z.2 h114, fun _ => ⟨rfl, rfl⟩⟩)
  · have hgi : i + 1 ≤ q := by rw [← hq, rnE_s h42]; exact rnE_ge
    refine Rn.step (pc' := 46) rfl rfl ?_
    refine Rn.getf (pc' := 49) rfl rfl rfl rfl rfl ?_
    refine Rn.step (pc' := 50) rfl rfl ?_
    refine Rn.isub (pc' := 51) rfl rfl ?_
    rw [show upd v 8 (nI i) 8 - nI p = nI (i - p) from nI_subw hi.1]
    refine Rn.iconst (v := 5) (pc' := 52) rfl (by decide) rfl ?_
    refine Rn.icmp_ge (pc1 := 75) (pc2 := 55) rfl rfl rfl (fun h52 => ?_) (fun h52 => ?_)
    · refine Rn.step (pc' := 76) rfl rfl ?_
      refine Rn.step (pc' := 77) rfl rfl ?_
      refine Rn.getf (pc' := 80) rfl rfl rfl rfl rfl ?_
      refine Rn.iconst (v := 1) (pc' := 81) rfl (by decide) rfl ?_
      refine Rn.iadd (pc' := 82) rfl rfl ?_
      refine Rn.mput (pc' := 85) rfl rfl rfl rfl (by decide) rfl ?_
      refine Rn.step (pc' := 34) rfl rfl ?_
      rw [updO, show upd v 8 (nI i) 8 + 1 = nI (i + 1) from nI_add i 1]
      refine l_X_num hn h4 hw hd (i + 1) _ ⟨by omega, by have := h42.1; omega⟩ (by rw [← hq]; exact (rnE_s h42).symm) ?_
      have := (nI_leI (a := 5) (b := i - p) (by omega) (by omega)).mp h52
      rw [show min 5 (q - p) - (i - p) = 0 by omega] at hx
      rw [show min 5 (q - p) - (i + 1 - p) = 0 by omega]
      exact hx
    · refine Rn.iconst (v := 10) (pc' := 57) rfl (by decide) rfl ?_
      refine Rn.step (pc' := 59) rfl rfl ?_
      refine Rn.imul (pc' := 60) rfl rfl ?_
      refine Rn.step (pc' := 61) rfl rfl ?_
      refine Rn.getf (pc' := 64) rfl rfl rfl rfl rfl ?_
      refine Rn.step (pc' := 65) rfl rfl ?_
      refine Rn.getf (pc' := 68) rfl rfl rfl rfl rfl ?_
      refine Rn.mbald (k := i) (pc' := 69) rfl rfl (by decide) (rfl) (by have := h42.1; omega) (by decide) rfl ?_
      refine Rn.iadd (pc' := 70) rfl rfl ?_
      refine Rn.iconst (v := 48) (pc' := 72) rfl (by decide) rfl ?_
      refine Rn.isub (pc' := 73) rfl rfl ?_
      refine Rn.step (pc' := 75) rfl rfl ?_
      refine Rn.step (pc' := 76) rfl rfl ?_
      refine Rn.step (pc' := 77) rfl rfl ?_
      refine Rn.getf (pc' := 80) rfl rfl rfl rfl rfl ?_
      refine Rn.iconst (v := 1) (pc' := 81) rfl (by decide) rfl ?_
      refine Rn.iadd (pc' := 82) rfl rfl ?_
      refine Rn.mput (pc' := 85) rfl rfl rfl rfl (by decide) rfl ?_
      refine Rn.step (pc' := 34) rfl rfl ?_
      rw [updO, show upd v 8 (nI i) 8 + 1 = nI (i + 1) from nI_add i 1]
      refine l_X_num hn h4 hw hd (i + 1) _ ⟨by omega, by have := h42.1; omega⟩ (by rw [← hq]; exact (rnE_s h42).symm) ?_
      have := mt (nI_leI (a := 5) (b := i - p) (by omega) (by omega)).mpr h52
      rw [show min 5 (q - p) - (i - p) = min 5 (q - p) - (i + 1 - p) + 1 by omega] at hx
      rw [← hx, Int32.mul_comm]
      rfl
termination_by n - i
decreasing_by all_goals (have := h42.1; omega)
theorem x_number {d : Nat} {lo hi_ : Int32} (hd : 1 ≤ d) (h : TM v A T n p) (hw : v 9 = 0) : Cl d j_M_numberHere [.ref 50, .int lo, .int hi_] (MM m0 v dx A LA) (fun r m2 => (¬ kdE T n p = 2 → r = some (.int 0) ∧ m2 = MM m0 (upd (upd v 8 (nI p)) 9 (nI (1 + 8 * p + 0))) dx A LA) ∧ (kdE T n p = 2 → (nbE T n p lo hi_ → r = some (.int 1) ∧ m2 = MM m0 (upd (upd v 8 (nI (tkE T n p))) 10 (vlE T n p)) dx A LA) ∧ (¬ nbE T n p lo hi_ → r = some (.int 0) ∧ m2 = MM m0 (upd (upd (upd v 8 (nI (tkE T n p))) 10 (vlE T n p)) 9 (nI (1 + 8 * p + 1))) dx A LA))) := by
  obtain ⟨rfl, h⟩ := h
  replace h : TM v A (A 51) n p := ⟨rfl, h⟩
  have hp := h.le
  have h4 := h.2.2.1
  show Rn d j_M_numberHere 0 _ _ _ _
  refine Rn.step (pc' := 1) rfl rfl ?_
  refine Rn.vi (pc' := 4) rfl (by decide) (by omega) rfl rfl rfl (x_see h) ?_
  refine Rn.step (pc' := 5) rfl rfl ?_
  refine Rn.step (pc' := 6) rfl rfl ?_
  refine Rn.step (pc' := 7) rfl rfl ?_
  refine Rn.getf (pc' := 10) rfl rfl rfl rfl rfl ?_
  refine Rn.vi (pc' := 13) rfl (by decide) (by omega) rfl rfl rfl (x_M_isDigit (n := n) (k := p) (by exact h.2.1) h.2.2.1 (by omega)) ?_
  refine Rn.ifp_ne (pc1 := 26) (pc2 := 16) rfl rfl rfl (fun h13 => ?_) (fun h13 => ?_)
  · refine Rn.step (pc' := 27) rfl rfl ?_
    refine Rn.getf (pc' := 30) rfl rfl rfl rfl rfl ?_
    refine Rn.step (pc' := 31) rfl rfl ?_
    refine Rn.iconst (v := 0) (pc' := 32) rfl (by decide) rfl ?_
    refine Rn.step (pc' := 34) rfl rfl ?_
    have k2 := (kd2_iff h.2.2.2.1).mp h13
    obtain ⟨t1, t2⟩ := tz2 k2
    refine Rn.conseq (l_X_num (q := rnE 48 57 (A 51) n p) (z := vlE (A 51) n p) (by exact h.2.1) h.2.2.1 (by exact hw) hd p 0 ⟨Nat.le_refl _, hp⟩ rfl (by rw [Nat.sub_self, Nat.sub_zero, ← t2])) ?_
    intro r m2 hr
    refine ⟨fun z => absurd k2 z, fun _ => ?_⟩
    unfold nbE
    rw [t1]
    exact hr
  · refine Rn.step (pc' := 17) rfl rfl ?_
    refine Rn.iconst (v := 0) (pc' := 18) rfl (by decide) rfl ?_
    refine Rn.step (pc' := 19) rfl rfl ?_
    refine Rn.getf (pc' := 22) rfl rfl rfl rfl rfl ?_
    refine Rn.vi (pc' := 25) rfl (by decide) (by omega) rfl rfl rfl (x_M_fails (k := 0) (p := p) (by exact hw)) ?_
    exact Rn.iret rfl (rfl) (⟨fun _ => ⟨rfl, rfl⟩, fun z => absurd ((kd2_iff h.2.2.2.1).mpr z) h13⟩)
theorem x_wordHere {d : Nat} (hd : 2 ≤ d) (h : TM v A T n p) : Cl d j_M_wordHere [.ref 50] (MM m0 v dx A LA) (Pi (wix T p (leE T n p) ws2 0) (MM m0 (upd v 8 (nI p)) dx A LA)) := by
  show Rn d j_M_wordHere 0 _ _ _ _
  refine Rn.step (pc' := 1) rfl rfl ?_
  refine Rn.ldc2 (v := 27710370737579378) (pc' := 4) rfl (by decide) rfl ?_
  refine Rn.vi (pc' := 7) rfl (by decide) (by omega) rfl rfl rfl (x_isWord (x := [98, 114, 111, 116, 104, 101, 114]) (by omega) h (by decide) (by decide)) ?_
  refine Rn.ifp_eq (pc1 := 12) (pc2 := 10) rfl rfl rfl (fun h7 => ?_) (fun h7 => ?_)
  · refine Rn.step (pc' := 13) rfl rfl ?_
    refine Rn.ldc2 (v := 482854658917) (pc' := 16) rfl (by decide) rfl ?_
    refine Rn.vi (pc' := 19) rfl (by decide) (by omega) rfl rfl rfl (x_isWord (x := [112, 108, 97, 99, 101]) (by omega) h.here (by decide) (by decide)) ?_
    rw [updO]
    refine Rn.ifp_eq (pc1 := 24) (pc2 := 22) rfl rfl rfl (fun h19 => ?_) (fun h19 => ?_)
    · refine Rn.step (pc' := 25) rfl rfl ?_
      refine Rn.ldc2 (v := 1752132965) (pc' := 28) rfl (by decide) rfl ?_
      refine Rn.vi (pc' := 31) rfl (by decide) (by omega) rfl rfl rfl (x_isWord (x := [104, 111, 109, 101]) (by omega) h.here (by decide) (by decide)) ?_
      rw [updO]
      refine Rn.ifp_eq (pc1 := 36) (pc2 := 34) rfl rfl rfl (fun h31 => ?_) (fun h31 => ?_)
      · refine Rn.step (pc' := 37) rfl rfl ?_
        refine Rn.ldc2 (v := 1936292453) (pc' := 40) rfl (by decide) rfl ?_
        refine Rn.vi (pc' := 43) rfl (by decide) (by omega) rfl rfl rfl (x_isWord (x := [115, 105, 122, 101]) (by omega) h.here (by decide) (by decide)) ?_
        rw [updO]
        refine Rn.ifp_eq (pc1 := 48) (pc2 := 46) rfl rfl rfl (fun h43 => ?_) (fun h43 => ?_)
        · refine Rn.step (pc' := 49) rfl rfl ?_
          refine Rn.ldc2 (v := 1752135026) (pc' := 52) rfl (by decide) rfl ?_
          refine Rn.vi (pc' := 55) rfl (by decide) (by omega) rfl rfl rfl (x_isWord (x := [104, 111, 117, 114]) (by omega) h.here (by decide) (by decide)) ?_
          rw [updO]
          refine Rn.ifp_eq (pc1 := 60) (pc2 := 58) rfl rfl rfl (fun h55 => ?_) (fun h55 => ?_)
          · refine Rn.step (pc' := 61) rfl rfl ?_
            refine Rn.ldc2 (v := 6578553) (pc' := 64) rfl (by decide) rfl ?_
            refine Rn.vi (pc' := 67) rfl (by decide) (by omega) rfl rfl rfl (x_isWord (x := [100, 97, 121]) (by omega) h.here (by decide) (by decide)) ?_
            rw [updO]
            refine Rn.ifp_eq (pc1 := 72) (pc2 := 70) rfl rfl rfl (fun h67 => ?_) (fun h67 => ?_)
            · refine Rn.step (pc' := 73) rfl rfl ?_
              refine Rn.ldc2 (v := 1735352684) (pc' := 76) rfl (by decide) rfl ?_
              refine Rn.vi (pc' := 79) rfl (by decide) (by omega) rfl rfl rfl (x_isWord (x := [103, 111, 97, 108]) (by omega) h.here (by decide) (by decide)) ?_
              rw [updO]
              refine Rn.ifp_eq (pc1 := 85) (pc2 := 82) rfl rfl rfl (fun h79 => ?_) (fun h79 => ?_)
              · refine Rn.step (pc' := 86) rfl rfl ?_
                refine Rn.ldc2 (v := 7364985) (pc' := 89) rfl (by decide) rfl ?_
                refine Rn.vi (pc' := 92) rfl (by decide) (by omega) rfl rfl rfl (x_isWord (x := [112, 97, 121]) (by omega) h.here (by decide) (by decide)) ?_
                rw [updO]
                refine Rn.ifp_eq (pc1 := 98) (pc2 := 95) rfl rfl rfl (fun h92 => ?_) (fun h92 => ?_)
                · refine Rn.step (pc' := 99) rfl rfl ?_
                  refine Rn.ldc2 (v := 504364296556) (pc' := 102) rfl (by decide) rfl ?_
                  refine Rn.vi (pc' := 105) rfl (by decide) (by omega) rfl rfl rfl (x_isWord (x := [117, 110, 116, 105, 108]) (by omega) h.here (by decide) (by decide)) ?_
                  rw [updO]
                  refine Rn.ifp_eq (pc1 := 111) (pc2 := 108) rfl rfl rfl (fun h105 => ?_) (fun h105 => ?_)
                  · refine Rn.step (pc' := 112) rfl rfl ?_
                    refine Rn.ldc2 (v := 7824756) (pc' := 115) rfl (by decide) rfl ?_
                    refine Rn.vi (pc' := 118) rfl (by decide) (by omega) rfl rfl rfl (x_isWord (x := [119, 101, 116]) (by omega) h.here (by decide) (by decide)) ?_
                    rw [updO]
                    refine Rn.ifp_eq (pc1 := 124) (pc2 := 121) rfl rfl rfl (fun h118 => ?_) (fun h118 => ?_)
                    · refine Rn.step (pc' := 125) rfl rfl ?_
                      refine Rn.ldc2 (v := 440006570868) (pc' := 128) rfl (by decide) rfl ?_
                      refine Rn.vi (pc' := 131) rfl (by decide) (by omega) rfl rfl rfl (x_isWord (x := [102, 114, 111, 115, 116]) (by omega) h.here (by decide) (by decide)) ?_
                      rw [updO]
                      refine Rn.ifp_eq (pc1 := 137) (pc2 := 134) rfl rfl rfl (fun h131 => ?_) (fun h131 => ?_)
                      · refine Rn.step (pc' := 138) rfl rfl ?_
                        refine Rn.ldc2 (v := 422776370291) (pc' := 141) rfl (by decide) rfl ?_
                        refine Rn.vi (pc' := 144) rfl (by decide) (by omega) rfl rfl rfl (x_isWord (x := [98, 111, 111, 116, 115]) (by omega) h.here (by decide) (by decide)) ?_
                        rw [updO]
                        refine Rn.ifp_eq (pc1 := 150) (pc2 := 147) rfl rfl rfl (fun h144 => ?_) (fun h144 => ?_)
                        · refine Rn.step (pc' := 151) rfl rfl ?_
                          refine Rn.ldc2 (v := 426953501804) (pc' := 154) rfl (by decide) rfl ?_
                          refine Rn.vi (pc' := 157) rfl (by decide) (by omega) rfl rfl rfl (x_isWord (x := [99, 104, 105, 108, 108]) (by omega) h.here (by decide) (by decide)) ?_
                          rw [updO]
                          refine Rn.ifp_eq (pc1 := 163) (pc2 := 160) rfl rfl rfl (fun h157 => ?_) (fun h157 => ?_)
                          · refine Rn.step (pc' := 164) rfl rfl ?_
                            refine Rn.ldc2 (v := 122545758368371) (pc' := 167) rfl (by decide) rfl ?_
                            refine Rn.vi (pc' := 170) rfl (by decide) (by omega) rfl rfl rfl (x_isWord (x := [111, 116, 104, 101, 114, 115]) (by omega) h.here (by decide) (by decide)) ?_
                            rw [updO]
                            refine Rn.ifp_eq (pc1 := 178) (pc2 := 173) rfl rfl rfl (fun h170 => ?_) (fun h170 => ?_)
                            · refine Rn.step (pc' := 179) rfl rfl ?_
                              refine Rn.ldc2 (v := 465893420647) (pc' := 182) rfl (by decide) rfl ?_
                              refine Rn.vi (pc' := 185) rfl (by decide) (by omega) rfl rfl rfl (x_isWord (x := [108, 121, 105, 110, 103]) (by omega) h.here (by decide) (by decide)) ?_
                              rw [updO]
                              refine Rn.ifp_eq (pc1 := 193) (pc2 := 188) rfl rfl rfl (fun h185 => ?_) (fun h185 => ?_)
                              · refine Rn.iconst (v := (-1)) (pc' := 194) rfl (by decide) rfl ?_
                                exact Rn.iret rfl (rfl) (⟨by rw [show wix T p (leE T n p) ws2 0 = -1 from (if_neg h7).trans <| (if_neg h19).trans <| (if_neg h31).trans <| (if_neg h43).trans <| (if_neg h55).trans <| (if_neg h67).trans <| (if_neg h79).trans <| (if_neg h92).trans <| (if_neg h105).trans <| (if_neg h118).trans <| (if_neg h131).trans <| (if_neg h144).trans <| (if_neg h157).trans <| (if_neg h170).trans <| if_neg h185], rfl⟩)
                              · refine Rn.iconst (v := 14) (pc' := 190) rfl (by decide) rfl ?_
                                refine Rn.step (pc' := 194) rfl rfl ?_
                                exact Rn.iret rfl (rfl) (⟨by rw [show wix T p (leE T n p) ws2 0 = nI 14 from (if_neg h7).trans <| (if_neg h19).trans <| (if_neg h31).trans <| (if_neg h43).trans <| (if_neg h55).trans <| (if_neg h67).trans <| (if_neg h79).trans <| (if_neg h92).trans <| (if_neg h105).trans <| (if_neg h118).trans <| (if_neg h131).trans <| (if_neg h144).trans <| (if_neg h157).trans <| (if_neg h170).trans <| if_pos h185]; rfl, rfl⟩)
                            · refine Rn.iconst (v := 13) (pc' := 175) rfl (by decide) rfl ?_
                              refine Rn.step (pc' := 194) rfl rfl ?_
                              exact Rn.iret rfl (rfl) (⟨by rw [show wix T p (leE T n p) ws2 0 = nI 13 from (if_neg h7).trans <| (if_neg h19).trans <| (if_neg h31).trans <| (if_neg h43).trans <| (if_neg h55).trans <| (if_neg h67).trans <| (if_neg h79).trans <| (if_neg h92).trans <| (if_neg h105).trans <| (if_neg h118).trans <| (if_neg h131).trans <| (if_neg h144).trans <| (if_neg h157).trans <| if_pos h170]; rfl, rfl⟩)
                          · refine Rn.iconst (v := 12) (pc' := 162) rfl (by decide) rfl ?_
                            exact Rn.iret rfl (rfl) (⟨by rw [show wix T p (leE T n p) ws2 0 = nI 12 from (if_neg h7).trans <| (if_neg h19).trans <| (if_neg h31).trans <| (if_neg h43).trans <| (if_neg h55).trans <| (if_neg h67).trans <| (if_neg h79).trans <| (if_neg h92).trans <| (if_neg h105).trans <| (if_neg h118).trans <| (if_neg h131).trans <| (if_neg h144).trans <| if_pos h157]; rfl, rfl⟩)
                        · refine Rn.iconst (v := 11) (pc' := 149) rfl (by decide) rfl ?_
                          exact Rn.iret rfl (rfl) (⟨by rw [show wix T p (leE T n p) ws2 0 = nI 11 from (if_neg h7).trans <| (if_neg h19).trans <| (if_neg h31).trans <| (if_neg h43).trans <| (if_neg h55).trans <| (if_neg h67).trans <| (if_neg h79).trans <| (if_neg h92).trans <| (if_neg h105).trans <| (if_neg h118).trans <| (if_neg h131).trans <| if_pos h144]; rfl, rfl⟩)
                      · refine Rn.iconst (v := 10) (pc' := 136) rfl (by decide) rfl ?_
                        exact Rn.iret rfl (rfl) (⟨by rw [show wix T p (leE T n p) ws2 0 = nI 10 from (if_neg h7).trans <| (if_neg h19).trans <| (if_neg h31).trans <| (if_neg h43).trans <| (if_neg h55).trans <| (if_neg h67).trans <| (if_neg h79).trans <| (if_neg h92).trans <| (if_neg h105).trans <| (if_neg h118).trans <| if_pos h131]; rfl, rfl⟩)
                    · refine Rn.iconst (v := 9) (pc' := 123) rfl (by decide) rfl ?_
                      exact Rn.iret rfl (rfl) (⟨by rw [show wix T p (leE T n p) ws2 0 = nI 9 from (if_neg h7).trans <| (if_neg h19).trans <| (if_neg h31).trans <| (if_neg h43).trans <| (if_neg h55).trans <| (if_neg h67).trans <| (if_neg h79).trans <| (if_neg h92).trans <| (if_neg h105).trans <| if_pos h118]; rfl, rfl⟩)
                  · refine Rn.iconst (v := 8) (pc' := 110) rfl (by decide) rfl ?_
                    exact Rn.iret rfl (rfl) (⟨by rw [show wix T p (leE T n p) ws2 0 = nI 8 from (if_neg h7).trans <| (if_neg h19).trans <| (if_neg h31).trans <| (if_neg h43).trans <| (if_neg h55).trans <| (if_neg h67).trans <| (if_neg h79).trans <| (if_neg h92).trans <| if_pos h105]; rfl, rfl⟩)
                · refine Rn.iconst (v := 7) (pc' := 97) rfl (by decide) rfl ?_
                  exact Rn.iret rfl (rfl) (⟨by rw [show wix T p (leE T n p) ws2 0 = nI 7 from (if_neg h7).trans <| (if_neg h19).trans <| (if_neg h31).trans <| (if_neg h43).trans <| (if_neg h55).trans <| (if_neg h67).trans <| (if_neg h79).trans <| if_pos h92]; rfl, rfl⟩)
              · refine Rn.iconst (v := 6) (pc' := 84) rfl (by decide) rfl ?_
                exact Rn.iret rfl (rfl) (⟨by rw [show wix T p (leE T n p) ws2 0 = nI 6 from (if_neg h7).trans <| (if_neg h19).trans <| (if_neg h31).trans <| (if_neg h43).trans <| (if_neg h55).trans <| (if_neg h67).trans <| if_pos h79]; rfl, rfl⟩)
            · refine Rn.iconst (v := 5) (pc' := 71) rfl (by decide) rfl ?_
              exact Rn.iret rfl (rfl) (⟨by rw [show wix T p (leE T n p) ws2 0 = nI 5 from (if_neg h7).trans <| (if_neg h19).trans <| (if_neg h31).trans <| (if_neg h43).trans <| (if_neg h55).trans <| if_pos h67]; rfl, rfl⟩)
          · refine Rn.iconst (v := 4) (pc' := 59) rfl (by decide) rfl ?_
            exact Rn.iret rfl (rfl) (⟨by rw [show wix T p (leE T n p) ws2 0 = nI 4 from (if_neg h7).trans <| (if_neg h19).trans <| (if_neg h31).trans <| (if_neg h43).trans <| if_pos h55]; rfl, rfl⟩)
        · refine Rn.iconst (v := 3) (pc' := 47) rfl (by decide) rfl ?_
          exact Rn.iret rfl (rfl) (⟨by rw [show wix T p (leE T n p) ws2 0 = nI 3 from (if_neg h7).trans <| (if_neg h19).trans <| (if_neg h31).trans <| if_pos h43]; rfl, rfl⟩)
      · refine Rn.iconst (v := 2) (pc' := 35) rfl (by decide) rfl ?_
        exact Rn.iret rfl (rfl) (⟨by rw [show wix T p (leE T n p) ws2 0 = nI 2 from (if_neg h7).trans <| (if_neg h19).trans <| if_pos h31]; rfl, rfl⟩)
    · refine Rn.iconst (v := 1) (pc' := 23) rfl (by decide) rfl ?_
      exact Rn.iret rfl (rfl) (⟨by rw [show wix T p (leE T n p) ws2 0 = nI 1 from (if_neg h7).trans <| if_pos h19]; rfl, rfl⟩)
  · refine Rn.iconst (v := 0) (pc' := 11) rfl (by decide) rfl ?_
    exact Rn.iret rfl (rfl) (⟨by rw [show wix T p (leE T n p) ws2 0 = nI 0 from if_pos h7]; rfl, rfl⟩)
end T2
end MT2
