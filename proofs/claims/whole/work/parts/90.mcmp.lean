/-! THE MODEL: its reader: comparisons. -/
section MW2
variable {m0 : xM} {v : Nat → Int32} {dx : Int64} {A : Nat → Nat → Int32} {LA : Nat → Nat → Int64} {s : Nat → Int32}
section T5
variable {T : Nat → Int32} {n r : Nat} {t : gS}
theorem cm_cu {p : Nat} : (cuE T n p = 60 → twE T n p → cmE T n p = 7 ∧ tkE T n p = p + 2) ∧ (cuE T n p = 60 → ¬ twE T n p → cmE T n p = 6 ∧ tkE T n p = p + 1) ∧ (cuE T n p = 61 → cmE T n p = 8 ∧ tkE T n p = p + 1) ∧ (cuE T n p = 62 → twE T n p → cmE T n p = 9 ∧ tkE T n p = p + 2) ∧ (cuE T n p = 62 → ¬ twE T n p → cmE T n p = 10 ∧ tkE T n p = p + 1) ∧ (¬ cuE T n p = 60 → ¬ cuE T n p = 61 → ¬ cuE T n p = 62 → cmE T n p = 0) := by
  unfold cuE
  by_cases hp : p < n
  · rw [if_pos hp]
    refine ⟨fun h ht => ?_, fun h ht => ?_, fun h => ?_, fun h ht => ?_, fun h ht => ?_, fun h1 h2 h3 => ?_⟩
    · have k3 : kdE T n p = 3 := kd3 (by omega) (by rw [h]; decide) (by rw [h]; decide)
      refine ⟨?_, (tz3 k3 ht).1⟩
      unfold cmE
      rw [if_pos k3, (tz3 k3 ht).2, h]
      rfl
    · have k3 : kdE T n p = 3 := kd3 (by omega) (by rw [h]; decide) (by rw [h]; decide)
      refine ⟨?_, (tz4 k3 ht).1⟩
      unfold cmE
      rw [if_pos k3, (tz4 k3 ht).2, h]
      rfl
    · have k3 : kdE T n p = 3 := kd3 (by omega) (by rw [h]; decide) (by rw [h]; decide)
      have ht : ¬ twE T n p := fun z => by rcases z.1 with z | z <;> (rw [h] at z; exact absurd z (by decide))
      refine ⟨?_, (tz4 k3 ht).1⟩
      unfold cmE
      rw [if_pos k3, (tz4 k3 ht).2, h]
      rfl
    · have k3 : kdE T n p = 3 := kd3 (by omega) (by rw [h]; decide) (by rw [h]; decide)
      refine ⟨?_, (tz3 k3 ht).1⟩
      unfold cmE
      rw [if_pos k3, (tz3 k3 ht).2, h]
      rfl
    · have k3 : kdE T n p = 3 := kd3 (by omega) (by rw [h]; decide) (by rw [h]; decide)
      refine ⟨?_, (tz4 k3 ht).1⟩
      unfold cmE
      rw [if_pos k3, (tz4 k3 ht).2, h]
      rfl
    · unfold cmE
      by_cases k3 : kdE T n p = 3
      · have ht : ¬ twE T n p := fun z => by
          rcases z.1 with z | z
          · exact h1 z
          · exact h3 z
        have hb : fcE T p ≤ 255 := by
          show T p &&& 255 ≤ 255
          have := Int32.le_iff_toInt_le.mpr (by
            have e : (T p &&& 255).toInt = ((T p &&& 255).toBitVec.toNat : Int) := by
              have hm : (T p &&& 255).toBitVec.toNat ≤ 255 := by
                rw [Int32.toBitVec_and, BitVec.toNat_and]
                exact Nat.and_le_right
              show (T p &&& 255).toBitVec.toInt = _
              rw [BitVec.toInt_eq_toNat_of_lt (by omega)]
            have hm : (T p &&& 255).toBitVec.toNat ≤ 255 := by
              rw [Int32.toBitVec_and, BitVec.toNat_and]
              exact Nat.and_le_right
            rw [e]
            have e2 : (255 : Int32).toInt = 255 := by decide
            rw [e2]
            omega : (T p &&& 255).toInt ≤ (255 : Int32).toInt)
          exact this
        rw [if_pos k3, (tz4 k3 ht).2, if_neg (by exact h1), if_neg (fun z => by rw [z] at hb; exact absurd hb (by decide)), if_neg (by exact h2), if_neg (fun z => by rw [z] at hb; exact absurd hb (by decide)), if_neg (by exact h3)]
      · rw [if_neg k3]
  · rw [if_neg hp]
    refine ⟨fun h => absurd h (by decide), fun h => absurd h (by decide), fun h => absurd h (by decide), fun h => absurd h (by decide), fun h => absurd h (by decide), fun _ _ _ => ?_⟩
    unfold cmE
    rw [kd0 (by omega)]
    rfl
theorem cu_raw {p : Nat} {c : Int32} (hT : ∀ i, -128 ≤ T i ∧ T i ≤ 127) (h1 : c ≠ -1) (h : cuE T n p = c) : p < n ∧ fcE T p = c := by
  unfold cuE at h
  by_cases hp : p < n
  · rw [if_pos hp] at h
    exact ⟨hp, h⟩
  · rw [if_neg hp] at h
    exact absurd h.symm h1
/-- what stands behind the comparison's sign -/
def gC2 (T : Nat → Int32) (n : Nat) (a : gS) : gR := if cmE T n a.1 = 0 then gFl a 0 else gPa a (fun b => gBd (gSu T n (gAd T n b)) (fun c => .inr (gPt (cmE T n a.1, 0) c)))
theorem l_X_c154 {d k : Nat} {x y z : Int32} (hd : 6 ≤ d) (h : RM v A T n r t) (hl : t.2.2.length < t.1) : Rn d j_M_compare 154 [.ref 50, .int x, .int y, .int z, .int (nI k)] [] (MM m0 v dx A LA) (gM m0 v dx A LA T n r (gBd (gSu T n t) (fun c => .inr (gPt (6 + k, 0) c)))) := by
  have h4 := h.1.2.2.1
  replace hl' := hl
  have hl : t.2.2.length ≤ t.1 := by omega
  refine Rn.step (pc' := 155) rfl rfl ?_
  refine Rn.callV (pc' := 158) rfl (by decide) (by omega) rfl rfl rfl (x_sum (by omega) h hl) (fun r_ m_ hc_ => ?_)
  obtain ⟨v1, A1, rfl, hc1, hg⟩ := hc_
  cases hV : gSu T n t with
  | inl e =>
    rw [hV] at hg
    obtain ⟨rfl, h9⟩ := hg
    refine Rn.ifc_ne (pc1 := 163) (pc2 := 161) rfl rfl rfl (fun h36 => absurd rfl h36) (fun h36 => ?_)
    refine Rn.iconst (v := 0) (pc' := 162) rfl (by decide) rfl ?_
    refine Rn.iret rfl rfl ?_
    exact gM.bad hc1 h9
  | inr z =>
    rw [hV] at hg
    obtain ⟨rfl, h9⟩ := hg
    have hb := gSu_b h.1.2.2.2.1 h.1.le hV
    refine Rn.ifc_ne (pc1 := 163) (pc2 := 161) rfl rfl rfl (fun h158 => ?_) (fun h158 => absurd h158 (fun z => absurd z (by decide)))
    refine Rn.step (pc' := 164) rfl rfl ?_
    refine Rn.iconst (v := 6) (pc' := 166) rfl (by decide) rfl ?_
    refine Rn.step (pc' := 168) rfl rfl ?_
    refine Rn.iadd (pc' := 169) rfl rfl ?_
    refine Rn.iconst (v := 0) (pc' := 170) rfl (by decide) rfl ?_
    refine Rn.vv (pc' := 173) rfl (by decide) (by omega) rfl rfl rfl (x_puts (6 + k, 0) h9 (by omega) (by rw [← nI_add]; rfl) rfl) ?_
    refine Rn.iconst (v := 1) (pc' := 174) rfl (by decide) rfl ?_
    exact Rn.iret rfl (rfl) (gM.ok (hc1.trans (xFA.put _ _ _ _ _)) h9.put)
theorem l_X_c9 {d : Nat} {x y z u : Value} (hd : 6 ≤ d) (h : RM v A T n r t) (hl : t.2.2.length ≤ t.1) : Rn d j_M_compare 9 [.ref 50, x, y, z, u] [] (MM m0 v dx A LA) (gM m0 v dx A LA T n r (gC2 T n t)) := by
  have h4 := h.1.2.2.1
  have hp := h.1.le
  refine Rn.step (pc' := 10) rfl rfl ?_
  refine Rn.vi (pc' := 13) rfl (by decide) (by omega) rfl rfl rfl (x_see h.1) ?_
  refine Rn.step (pc' := 14) rfl rfl ?_
  refine Rn.step (pc' := 15) rfl rfl ?_
  refine Rn.getf (pc' := 18) rfl rfl rfl rfl rfl ?_
  refine Rn.step (pc' := 19) rfl rfl ?_
  refine Rn.step (pc' := 20) rfl rfl ?_
  refine Rn.iconst (v := 60) (pc' := 22) rfl (by decide) rfl ?_
  refine Rn.icmp_eq (pc1 := 44) (pc2 := 25) rfl rfl rfl (fun h22 => ?_) (fun h22 => ?_)
  · obtain ⟨hpn, hfc⟩ := cu_raw h.1.2.2.2.1 (by decide) h22
    refine Rn.step (pc' := 45) rfl rfl ?_
    refine Rn.step (pc' := 46) rfl rfl ?_
    refine Rn.getf (pc' := 49) rfl rfl rfl rfl rfl ?_
    refine Rn.iconst (v := 1) (pc' := 50) rfl (by decide) rfl ?_
    refine Rn.iadd (pc' := 51) rfl rfl ?_
    refine Rn.mput (pc' := 54) rfl rfl rfl rfl (by decide) rfl ?_
    rw [updO, show upd v 8 (nI t.1) 8 + 1 = nI (t.1 + 1) from nI_add _ 1]
    refine Rn.step (pc' := 55) rfl rfl ?_
    refine Rn.iconst (v := 61) (pc' := 57) rfl (by decide) rfl ?_
    refine Rn.icmp_eq (pc1 := 89) (pc2 := 60) rfl rfl rfl (fun h57 => absurd h57 (fun z => absurd (h22.symm.trans z) (by decide))) (fun h57 => ?_)
    refine Rn.step (pc' := 61) rfl rfl ?_
    refine Rn.getf (pc' := 64) rfl rfl rfl rfl rfl ?_
    refine Rn.step (pc' := 65) rfl rfl ?_
    refine Rn.getf (pc' := 68) rfl rfl rfl rfl rfl ?_
    refine Rn.icmp_ge (pc1 := 89) (pc2 := 71) rfl rfl rfl (fun h68 => ?_) (fun h68 => ?_)
    · refine Rn.iconst (v := 0) (pc' := 90) rfl (by decide) rfl ?_
      refine Rn.step (pc' := 91) rfl rfl ?_
      refine Rn.step (pc' := 92) rfl rfl ?_
      refine Rn.ifc_eq (pc1 := 105) (pc2 := 95) rfl rfl rfl (fun h92 => ?_) (fun h92 => absurd (rfl) h92)
      have hx68 : n ≤ t.1 + 1 := (nI_leI (a := n) (b := t.1 + 1) (by omega) (by omega)).mp (by rw [← h.1.2.1]; exact h68)
      obtain ⟨hcm, htk⟩ := cm_cu.2.1 h22 (fun z => absurd z.2.1 (by omega))
      have h8 : RM (upd v 8 (nI (t.1 + 1))) A T n r (nxE T n t.1, t.2) := h.at (by omega) (by show skE T n (t.1 + 1) = skE T n (tkE T n t.1); rw [htk])
      rw [show gC2 T n t = _ from if_neg (show ¬ cmE T n t.1 = 0 by omega)]
      have hnx : t.1 < nxE T n t.1 := by
        have : t.1 + 1 ≤ skE T n (tkE T n t.1) := by rw [htk]; exact rnE_ge
        show t.1 < skE T n (tkE T n t.1)
        omega
      refine Rn.step (pc' := 106) rfl rfl ?_
      refine Rn.step (pc' := 107) rfl rfl ?_
      refine Rn.callV (pc' := 110) rfl (by decide) (by omega) rfl rfl rfl (x_M_makes (p := t.1) (c := t.2.1) (by omega) (by exact h.2.1) (by exact h.2.2.2.2.1) h.2.2.2.2.2.1) (fun r_ m_ hc_ => ?_)
      by_cases h60 : t.2.1 < 60
      rotate_left
      · obtain ⟨rfl, rfl⟩ := hc_.2 h60
        rw [show gPa t _ = gFl t 3 from if_neg h60]
        refine Rn.ifc_ne (pc1 := 115) (pc2 := 113) rfl rfl rfl (fun h36 => absurd rfl h36) (fun h36 => ?_)
        refine Rn.iconst (v := 0) (pc' := 114) rfl (by decide) rfl ?_
        refine Rn.iret rfl rfl ?_
        exact gM.bad (((xFA.rfl v A r).vv (by omega)).vv (by omega)) ⟨rfl, by omega⟩
      obtain ⟨rfl, rfl⟩ := hc_.1 h60
      rw [show gPa t _ = _ from if_pos h60]
      refine Rn.ifc_ne (pc1 := 115) (pc2 := 113) rfl rfl rfl (fun h110 => ?_) (fun h110 => absurd h110 (fun z => absurd z (by decide)))
      refine Rn.step (pc' := 116) rfl rfl ?_
      refine Rn.iconst (v := 60) (pc' := 118) rfl (by decide) rfl ?_
      refine Rn.icmp_ne (pc1 := 133) (pc2 := 121) rfl rfl rfl (fun h118 => absurd h118 (fun z => z (by exact h22))) (fun h118 => ?_)
      refine Rn.step (pc' := 122) rfl rfl ?_
      refine Rn.ifc_eq (pc1 := 129) (pc2 := 125) rfl rfl rfl (fun h122 => ?_) (fun h122 => absurd (rfl) h122)
      refine Rn.iconst (v := 0) (pc' := 130) rfl (by decide) rfl ?_
      refine Rn.step (pc' := 152) rfl rfl ?_
      refine Rn.step (pc' := 154) rfl rfl ?_
      rw [hcm]
      exact Rn.conseq (l_X_c154 (k := 0) hd (h8.one h60) (by show t.2.2.length < nxE T n t.1; omega)) (fun r_ m_ hg => hg.mono (((xFA.rfl v A r).vv (by omega)).vv (by omega)))
    · have hx68 : t.1 + 1 < n := by
        have := mt (nI_leI (a := n) (b := t.1 + 1) (by omega) (by omega)).mpr (by rw [← h.1.2.1]; exact h68)
        omega
      refine Rn.step (pc' := 72) rfl rfl ?_
      refine Rn.getf (pc' := 75) rfl rfl rfl rfl rfl ?_
      refine Rn.step (pc' := 76) rfl rfl ?_
      refine Rn.getf (pc' := 79) rfl rfl rfl rfl rfl ?_
      refine Rn.mbald (k := t.1 + 1) (pc' := 80) rfl rfl (by decide) (rfl) (by omega) (by decide) rfl ?_
      refine Rn.iconst (v := 61) (pc' := 82) rfl (by decide) rfl ?_
      refine Rn.icmp_ne (pc1 := 89) (pc2 := 85) rfl rfl rfl (fun h82 => ?_) (fun h82 => ?_)
      · refine Rn.iconst (v := 0) (pc' := 90) rfl (by decide) rfl ?_
        refine Rn.step (pc' := 91) rfl rfl ?_
        refine Rn.step (pc' := 92) rfl rfl ?_
        refine Rn.ifc_eq (pc1 := 105) (pc2 := 95) rfl rfl rfl (fun h92 => ?_) (fun h92 => absurd (rfl) h92)
        obtain ⟨hcm, htk⟩ := cm_cu.2.1 h22 (fun z => h82 (by rw [h.1.1]; exact z.2.2))
        have h8 : RM (upd v 8 (nI (t.1 + 1))) A T n r (nxE T n t.1, t.2) := h.at (by omega) (by show skE T n (t.1 + 1) = skE T n (tkE T n t.1); rw [htk])
        rw [show gC2 T n t = _ from if_neg (show ¬ cmE T n t.1 = 0 by omega)]
        have hnx : t.1 < nxE T n t.1 := by
          have : t.1 + 1 ≤ skE T n (tkE T n t.1) := by rw [htk]; exact rnE_ge
          show t.1 < skE T n (tkE T n t.1)
          omega
        refine Rn.step (pc' := 106) rfl rfl ?_
        refine Rn.step (pc' := 107) rfl rfl ?_
        refine Rn.callV (pc' := 110) rfl (by decide) (by omega) rfl rfl rfl (x_M_makes (p := t.1) (c := t.2.1) (by omega) (by exact h.2.1) (by exact h.2.2.2.2.1) h.2.2.2.2.2.1) (fun r_ m_ hc_ => ?_)
        by_cases h60 : t.2.1 < 60
        rotate_left
        · obtain ⟨rfl, rfl⟩ := hc_.2 h60
          rw [show gPa t _ = gFl t 3 from if_neg h60]
          refine Rn.ifc_ne (pc1 := 115) (pc2 := 113) rfl rfl rfl (fun h36 => absurd rfl h36) (fun h36 => ?_)
          refine Rn.iconst (v := 0) (pc' := 114) rfl (by decide) rfl ?_
          refine Rn.iret rfl rfl ?_
          exact gM.bad (((xFA.rfl v A r).vv (by omega)).vv (by omega)) ⟨rfl, by omega⟩
        obtain ⟨rfl, rfl⟩ := hc_.1 h60
        rw [show gPa t _ = _ from if_pos h60]
        refine Rn.ifc_ne (pc1 := 115) (pc2 := 113) rfl rfl rfl (fun h110 => ?_) (fun h110 => absurd h110 (fun z => absurd z (by decide)))
        refine Rn.step (pc' := 116) rfl rfl ?_
        refine Rn.iconst (v := 60) (pc' := 118) rfl (by decide) rfl ?_
        refine Rn.icmp_ne (pc1 := 133) (pc2 := 121) rfl rfl rfl (fun h118 => absurd h118 (fun z => z (by exact h22))) (fun h118 => ?_)
        refine Rn.step (pc' := 122) rfl rfl ?_
        refine Rn.ifc_eq (pc1 := 129) (pc2 := 125) rfl rfl rfl (fun h122 => ?_) (fun h122 => absurd (rfl) h122)
        refine Rn.iconst (v := 0) (pc' := 130) rfl (by decide) rfl ?_
        refine Rn.step (pc' := 152) rfl rfl ?_
        refine Rn.step (pc' := 154) rfl rfl ?_
        rw [hcm]
        exact Rn.conseq (l_X_c154 (k := 0) hd (h8.one h60) (by show t.2.2.length < nxE T n t.1; omega)) (fun r_ m_ hg => hg.mono (((xFA.rfl v A r).vv (by omega)).vv (by omega)))
      · refine Rn.iconst (v := 1) (pc' := 86) rfl (by decide) rfl ?_
        refine Rn.step (pc' := 90) rfl rfl ?_
        refine Rn.step (pc' := 91) rfl rfl ?_
        refine Rn.step (pc' := 92) rfl rfl ?_
        refine Rn.ifc_eq (pc1 := 105) (pc2 := 95) rfl rfl rfl (fun h92 => absurd h92 (fun z => absurd z (by decide))) (fun h92 => ?_)
        refine Rn.step (pc' := 96) rfl rfl ?_
        refine Rn.step (pc' := 97) rfl rfl ?_
        refine Rn.getf (pc' := 100) rfl rfl rfl rfl rfl ?_
        refine Rn.iconst (v := 1) (pc' := 101) rfl (by decide) rfl ?_
        refine Rn.iadd (pc' := 102) rfl rfl ?_
        refine Rn.mput (pc' := 105) rfl rfl rfl rfl (by decide) rfl ?_
        rw [updO, show upd v 8 (nI (t.1 + 1)) 8 + 1 = nI (t.1 + 2) from nI_add _ 1]
        obtain ⟨hcm, htk⟩ := cm_cu.1 h22 ⟨Or.inl hfc, by omega, by rw [← h.1.1]; exact h82⟩
        have h8 : RM (upd v 8 (nI (t.1 + 2))) A T n r (nxE T n t.1, t.2) := h.at (by omega) (by show skE T n (t.1 + 2) = skE T n (tkE T n t.1); rw [htk])
        rw [show gC2 T n t = _ from if_neg (show ¬ cmE T n t.1 = 0 by omega)]
        have hnx : t.1 < nxE T n t.1 := by
          have : t.1 + 2 ≤ skE T n (tkE T n t.1) := by rw [htk]; exact rnE_ge
          show t.1 < skE T n (tkE T n t.1)
          omega
        refine Rn.step (pc' := 106) rfl rfl ?_
        refine Rn.step (pc' := 107) rfl rfl ?_
        refine Rn.callV (pc' := 110) rfl (by decide) (by omega) rfl rfl rfl (x_M_makes (p := t.1) (c := t.2.1) (by omega) (by exact h.2.1) (by exact h.2.2.2.2.1) h.2.2.2.2.2.1) (fun r_ m_ hc_ => ?_)
        by_cases h60 : t.2.1 < 60
        rotate_left
        · obtain ⟨rfl, rfl⟩ := hc_.2 h60
          rw [show gPa t _ = gFl t 3 from if_neg h60]
          refine Rn.ifc_ne (pc1 := 115) (pc2 := 113) rfl rfl rfl (fun h36 => absurd rfl h36) (fun h36 => ?_)
          refine Rn.iconst (v := 0) (pc' := 114) rfl (by decide) rfl ?_
          refine Rn.iret rfl rfl ?_
          exact gM.bad (((xFA.rfl v A r).vv (by omega)).vv (by omega)) ⟨rfl, by omega⟩
        obtain ⟨rfl, rfl⟩ := hc_.1 h60
        rw [show gPa t _ = _ from if_pos h60]
        refine Rn.ifc_ne (pc1 := 115) (pc2 := 113) rfl rfl rfl (fun h110 => ?_) (fun h110 => absurd h110 (fun z => absurd z (by decide)))
        refine Rn.step (pc' := 116) rfl rfl ?_
        refine Rn.iconst (v := 60) (pc' := 118) rfl (by decide) rfl ?_
        refine Rn.icmp_ne (pc1 := 133) (pc2 := 121) rfl rfl rfl (fun h118 => absurd h118 (fun z => z (by exact h22))) (fun h118 => ?_)
        refine Rn.step (pc' := 122) rfl rfl ?_
        refine Rn.ifc_eq (pc1 := 129) (pc2 := 125) rfl rfl rfl (fun h122 => absurd h122 (fun z => absurd z (by decide))) (fun h122 => ?_)
        refine Rn.iconst (v := 1) (pc' := 126) rfl (by decide) rfl ?_
        refine Rn.step (pc' := 152) rfl rfl ?_
        refine Rn.step (pc' := 154) rfl rfl ?_
        rw [hcm]
        exact Rn.conseq (l_X_c154 (k := 1) hd (h8.one h60) (by show t.2.2.length < nxE T n t.1; omega)) (fun r_ m_ hg => hg.mono (((xFA.rfl v A r).vv (by omega)).vv (by omega)))
  · refine Rn.step (pc' := 26) rfl rfl ?_
    refine Rn.iconst (v := 61) (pc' := 28) rfl (by decide) rfl ?_
    refine Rn.icmp_eq (pc1 := 44) (pc2 := 31) rfl rfl rfl (fun h28 => ?_) (fun h28 => ?_)
    · obtain ⟨hpn, hfc⟩ := cu_raw h.1.2.2.2.1 (by decide) h28
      refine Rn.step (pc' := 45) rfl rfl ?_
      refine Rn.step (pc' := 46) rfl rfl ?_
      refine Rn.getf (pc' := 49) rfl rfl rfl rfl rfl ?_
      refine Rn.iconst (v := 1) (pc' := 50) rfl (by decide) rfl ?_
      refine Rn.iadd (pc' := 51) rfl rfl ?_
      refine Rn.mput (pc' := 54) rfl rfl rfl rfl (by decide) rfl ?_
      rw [updO, show upd v 8 (nI t.1) 8 + 1 = nI (t.1 + 1) from nI_add _ 1]
      refine Rn.step (pc' := 55) rfl rfl ?_
      refine Rn.iconst (v := 61) (pc' := 57) rfl (by decide) rfl ?_
      refine Rn.icmp_eq (pc1 := 89) (pc2 := 60) rfl rfl rfl (fun h57 => ?_) (fun h57 => absurd (h28) h57)
      refine Rn.iconst (v := 0) (pc' := 90) rfl (by decide) rfl ?_
      refine Rn.step (pc' := 91) rfl rfl ?_
      refine Rn.step (pc' := 92) rfl rfl ?_
      refine Rn.ifc_eq (pc1 := 105) (pc2 := 95) rfl rfl rfl (fun h92 => ?_) (fun h92 => absurd (rfl) h92)
      obtain ⟨hcm, htk⟩ := cm_cu.2.2.1 h28
      have h8 : RM (upd v 8 (nI (t.1 + 1))) A T n r (nxE T n t.1, t.2) := h.at (by omega) (by show skE T n (t.1 + 1) = skE T n (tkE T n t.1); rw [htk])
      rw [show gC2 T n t = _ from if_neg (show ¬ cmE T n t.1 = 0 by omega)]
      have hnx : t.1 < nxE T n t.1 := by
        have : t.1 + 1 ≤ skE T n (tkE T n t.1) := by rw [htk]; exact rnE_ge
        show t.1 < skE T n (tkE T n t.1)
        omega
      refine Rn.step (pc' := 106) rfl rfl ?_
      refine Rn.step (pc' := 107) rfl rfl ?_
      refine Rn.callV (pc' := 110) rfl (by decide) (by omega) rfl rfl rfl (x_M_makes (p := t.1) (c := t.2.1) (by omega) (by exact h.2.1) (by exact h.2.2.2.2.1) h.2.2.2.2.2.1) (fun r_ m_ hc_ => ?_)
      by_cases h60 : t.2.1 < 60
      rotate_left
      · obtain ⟨rfl, rfl⟩ := hc_.2 h60
        rw [show gPa t _ = gFl t 3 from if_neg h60]
        refine Rn.ifc_ne (pc1 := 115) (pc2 := 113) rfl rfl rfl (fun h36 => absurd rfl h36) (fun h36 => ?_)
        refine Rn.iconst (v := 0) (pc' := 114) rfl (by decide) rfl ?_
        refine Rn.iret rfl rfl ?_
        exact gM.bad (((xFA.rfl v A r).vv (by omega)).vv (by omega)) ⟨rfl, by omega⟩
      obtain ⟨rfl, rfl⟩ := hc_.1 h60
      rw [show gPa t _ = _ from if_pos h60]
      refine Rn.ifc_ne (pc1 := 115) (pc2 := 113) rfl rfl rfl (fun h110 => ?_) (fun h110 => absurd h110 (fun z => absurd z (by decide)))
      refine Rn.step (pc' := 116) rfl rfl ?_
      refine Rn.iconst (v := 60) (pc' := 118) rfl (by decide) rfl ?_
      refine Rn.icmp_ne (pc1 := 133) (pc2 := 121) rfl rfl rfl (fun h118 => ?_) (fun h118 => absurd h118 (fun z => absurd (h28.symm.trans z) (by decide)))
      refine Rn.step (pc' := 134) rfl rfl ?_
      refine Rn.iconst (v := 61) (pc' := 136) rfl (by decide) rfl ?_
      refine Rn.icmp_ne (pc1 := 143) (pc2 := 139) rfl rfl rfl (fun h136 => absurd h136 (fun z => z (by exact h28))) (fun h136 => ?_)
      refine Rn.iconst (v := 2) (pc' := 140) rfl (by decide) rfl ?_
      refine Rn.step (pc' := 152) rfl rfl ?_
      refine Rn.step (pc' := 154) rfl rfl ?_
      rw [hcm]
      exact Rn.conseq (l_X_c154 (k := 2) hd (h8.one h60) (by show t.2.2.length < nxE T n t.1; omega)) (fun r_ m_ hg => hg.mono (((xFA.rfl v A r).vv (by omega)).vv (by omega)))
    · refine Rn.step (pc' := 32) rfl rfl ?_
      refine Rn.iconst (v := 62) (pc' := 34) rfl (by decide) rfl ?_
      refine Rn.icmp_eq (pc1 := 44) (pc2 := 37) rfl rfl rfl (fun h34 => ?_) (fun h34 => ?_)
      · obtain ⟨hpn, hfc⟩ := cu_raw h.1.2.2.2.1 (by decide) h34
        refine Rn.step (pc' := 45) rfl rfl ?_
        refine Rn.step (pc' := 46) rfl rfl ?_
        refine Rn.getf (pc' := 49) rfl rfl rfl rfl rfl ?_
        refine Rn.iconst (v := 1) (pc' := 50) rfl (by decide) rfl ?_
        refine Rn.iadd (pc' := 51) rfl rfl ?_
        refine Rn.mput (pc' := 54) rfl rfl rfl rfl (by decide) rfl ?_
        rw [updO, show upd v 8 (nI t.1) 8 + 1 = nI (t.1 + 1) from nI_add _ 1]
        refine Rn.step (pc' := 55) rfl rfl ?_
        refine Rn.iconst (v := 61) (pc' := 57) rfl (by decide) rfl ?_
        refine Rn.icmp_eq (pc1 := 89) (pc2 := 60) rfl rfl rfl (fun h57 => absurd h57 (fun z => absurd (h34.symm.trans z) (by decide))) (fun h57 => ?_)
        refine Rn.step (pc' := 61) rfl rfl ?_
        refine Rn.getf (pc' := 64) rfl rfl rfl rfl rfl ?_
        refine Rn.step (pc' := 65) rfl rfl ?_
        refine Rn.getf (pc' := 68) rfl rfl rfl rfl rfl ?_
        refine Rn.icmp_ge (pc1 := 89) (pc2 := 71) rfl rfl rfl (fun h68 => ?_) (fun h68 => ?_)
        · refine Rn.iconst (v := 0) (pc' := 90) rfl (by decide) rfl ?_
          refine Rn.step (pc' := 91) rfl rfl ?_
          refine Rn.step (pc' := 92) rfl rfl ?_
          refine Rn.ifc_eq (pc1 := 105) (pc2 := 95) rfl rfl rfl (fun h92 => ?_) (fun h92 => absurd (rfl) h92)
          have hx68 : n ≤ t.1 + 1 := (nI_leI (a := n) (b := t.1 + 1) (by omega) (by omega)).mp (by rw [← h.1.2.1]; exact h68)
          obtain ⟨hcm, htk⟩ := cm_cu.2.2.2.2.1 h34 (fun z => absurd z.2.1 (by omega))
          have h8 : RM (upd v 8 (nI (t.1 + 1))) A T n r (nxE T n t.1, t.2) := h.at (by omega) (by show skE T n (t.1 + 1) = skE T n (tkE T n t.1); rw [htk])
          rw [show gC2 T n t = _ from if_neg (show ¬ cmE T n t.1 = 0 by omega)]
          have hnx : t.1 < nxE T n t.1 := by
            have : t.1 + 1 ≤ skE T n (tkE T n t.1) := by rw [htk]; exact rnE_ge
            show t.1 < skE T n (tkE T n t.1)
            omega
          refine Rn.step (pc' := 106) rfl rfl ?_
          refine Rn.step (pc' := 107) rfl rfl ?_
          refine Rn.callV (pc' := 110) rfl (by decide) (by omega) rfl rfl rfl (x_M_makes (p := t.1) (c := t.2.1) (by omega) (by exact h.2.1) (by exact h.2.2.2.2.1) h.2.2.2.2.2.1) (fun r_ m_ hc_ => ?_)
          by_cases h60 : t.2.1 < 60
          rotate_left
          · obtain ⟨rfl, rfl⟩ := hc_.2 h60
            rw [show gPa t _ = gFl t 3 from if_neg h60]
            refine Rn.ifc_ne (pc1 := 115) (pc2 := 113) rfl rfl rfl (fun h36 => absurd rfl h36) (fun h36 => ?_)
            refine Rn.iconst (v := 0) (pc' := 114) rfl (by decide) rfl ?_
            refine Rn.iret rfl rfl ?_
            exact gM.bad (((xFA.rfl v A r).vv (by omega)).vv (by omega)) ⟨rfl, by omega⟩
          obtain ⟨rfl, rfl⟩ := hc_.1 h60
          rw [show gPa t _ = _ from if_pos h60]
          refine Rn.ifc_ne (pc1 := 115) (pc2 := 113) rfl rfl rfl (fun h110 => ?_) (fun h110 => absurd h110 (fun z => absurd z (by decide)))
          refine Rn.step (pc' := 116) rfl rfl ?_
          refine Rn.iconst (v := 60) (pc' := 118) rfl (by decide) rfl ?_
          refine Rn.icmp_ne (pc1 := 133) (pc2 := 121) rfl rfl rfl (fun h118 => ?_) (fun h118 => absurd h118 (fun z => absurd (h34.symm.trans z) (by decide)))
          refine Rn.step (pc' := 134) rfl rfl ?_
          refine Rn.iconst (v := 61) (pc' := 136) rfl (by decide) rfl ?_
          refine Rn.icmp_ne (pc1 := 143) (pc2 := 139) rfl rfl rfl (fun h136 => ?_) (fun h136 => absurd h136 (fun z => absurd (h34.symm.trans z) (by decide)))
          refine Rn.step (pc' := 144) rfl rfl ?_
          refine Rn.ifc_eq (pc1 := 151) (pc2 := 147) rfl rfl rfl (fun h144 => ?_) (fun h144 => absurd (rfl) h144)
          refine Rn.iconst (v := 4) (pc' := 152) rfl (by decide) rfl ?_
          refine Rn.step (pc' := 154) rfl rfl ?_
          rw [hcm]
          exact Rn.conseq (l_X_c154 (k := 4) hd (h8.one h60) (by show t.2.2.length < nxE T n t.1; omega)) (fun r_ m_ hg => hg.mono (((xFA.rfl v A r).vv (by omega)).vv (by omega)))
        · have hx68 : t.1 + 1 < n := by
            have := mt (nI_leI (a := n) (b := t.1 + 1) (by omega) (by omega)).mpr (by rw [← h.1.2.1]; exact h68)
            omega
          refine Rn.step (pc' := 72) rfl rfl ?_
          refine Rn.getf (pc' := 75) rfl rfl rfl rfl rfl ?_
          refine Rn.step (pc' := 76) rfl rfl ?_
          refine Rn.getf (pc' := 79) rfl rfl rfl rfl rfl ?_
          refine Rn.mbald (k := t.1 + 1) (pc' := 80) rfl rfl (by decide) (rfl) (by omega) (by decide) rfl ?_
          refine Rn.iconst (v := 61) (pc' := 82) rfl (by decide) rfl ?_
          refine Rn.icmp_ne (pc1 := 89) (pc2 := 85) rfl rfl rfl (fun h82 => ?_) (fun h82 => ?_)
          · refine Rn.iconst (v := 0) (pc' := 90) rfl (by decide) rfl ?_
            refine Rn.step (pc' := 91) rfl rfl ?_
            refine Rn.step (pc' := 92) rfl rfl ?_
            refine Rn.ifc_eq (pc1 := 105) (pc2 := 95) rfl rfl rfl (fun h92 => ?_) (fun h92 => absurd (rfl) h92)
            obtain ⟨hcm, htk⟩ := cm_cu.2.2.2.2.1 h34 (fun z => h82 (by rw [h.1.1]; exact z.2.2))
            have h8 : RM (upd v 8 (nI (t.1 + 1))) A T n r (nxE T n t.1, t.2) := h.at (by omega) (by show skE T n (t.1 + 1) = skE T n (tkE T n t.1); rw [htk])
            rw [show gC2 T n t = _ from if_neg (show ¬ cmE T n t.1 = 0 by omega)]
            have hnx : t.1 < nxE T n t.1 := by
              have : t.1 + 1 ≤ skE T n (tkE T n t.1) := by rw [htk]; exact rnE_ge
              show t.1 < skE T n (tkE T n t.1)
              omega
            refine Rn.step (pc' := 106) rfl rfl ?_
            refine Rn.step (pc' := 107) rfl rfl ?_
            refine Rn.callV (pc' := 110) rfl (by decide) (by omega) rfl rfl rfl (x_M_makes (p := t.1) (c := t.2.1) (by omega) (by exact h.2.1) (by exact h.2.2.2.2.1) h.2.2.2.2.2.1) (fun r_ m_ hc_ => ?_)
            by_cases h60 : t.2.1 < 60
            rotate_left
            · obtain ⟨rfl, rfl⟩ := hc_.2 h60
              rw [show gPa t _ = gFl t 3 from if_neg h60]
              refine Rn.ifc_ne (pc1 := 115) (pc2 := 113) rfl rfl rfl (fun h36 => absurd rfl h36) (fun h36 => ?_)
              refine Rn.iconst (v := 0) (pc' := 114) rfl (by decide) rfl ?_
              refine Rn.iret rfl rfl ?_
              exact gM.bad (((xFA.rfl v A r).vv (by omega)).vv (by omega)) ⟨rfl, by omega⟩
            obtain ⟨rfl, rfl⟩ := hc_.1 h60
            rw [show gPa t _ = _ from if_pos h60]
            refine Rn.ifc_ne (pc1 := 115) (pc2 := 113) rfl rfl rfl (fun h110 => ?_) (fun h110 => absurd h110 (fun z => absurd z (by decide)))
            refine Rn.step (pc' := 116) rfl rfl ?_
            refine Rn.iconst (v := 60) (pc' := 118) rfl (by decide) rfl ?_
            refine Rn.icmp_ne (pc1 := 133) (pc2 := 121) rfl rfl rfl (fun h118 => ?_) (fun h118 => absurd h118 (fun z => absurd (h34.symm.trans z) (by decide)))
            refine Rn.step (pc' := 134) rfl rfl ?_
            refine Rn.iconst (v := 61) (pc' := 136) rfl (by decide) rfl ?_
            refine Rn.icmp_ne (pc1 := 143) (pc2 := 139) rfl rfl rfl (fun h136 => ?_) (fun h136 => absurd h136 (fun z => absurd (h34.symm.trans z) (by decide)))
            refine Rn.step (pc' := 144) rfl rfl ?_
            refine Rn.ifc_eq (pc1 := 151) (pc2 := 147) rfl rfl rfl (fun h144 => ?_) (fun h144 => absurd (rfl) h144)
            refine Rn.iconst (v := 4) (pc' := 152) rfl (by decide) rfl ?_
            refine Rn.step (pc' := 154) rfl rfl ?_
            rw [hcm]
            exact Rn.conseq (l_X_c154 (k := 4) hd (h8.one h60) (by show t.2.2.length < nxE T n t.1; omega)) (fun r_ m_ hg => hg.mono (((xFA.rfl v A r).vv (by omega)).vv (by omega)))
          · refine Rn.iconst (v := 1) (pc' := 86) rfl (by decide) rfl ?_
            refine Rn.step (pc' := 90) rfl rfl ?_
            refine Rn.step (pc' := 91) rfl rfl ?_
            refine Rn.step (pc' := 92) rfl rfl ?_
            refine Rn.ifc_eq (pc1 := 105) (pc2 := 95) rfl rfl rfl (fun h92 => absurd h92 (fun z => absurd z (by decide))) (fun h92 => ?_)
            refine Rn.step (pc' := 96) rfl rfl ?_
            refine Rn.step (pc' := 97) rfl rfl ?_
            refine Rn.getf (pc' := 100) rfl rfl rfl rfl rfl ?_
            refine Rn.iconst (v := 1) (pc' := 101) rfl (by decide) rfl ?_
            refine Rn.iadd (pc' := 102) rfl rfl ?_
            refine Rn.mput (pc' := 105) rfl rfl rfl rfl (by decide) rfl ?_
            rw [updO, show upd v 8 (nI (t.1 + 1)) 8 + 1 = nI (t.1 + 2) from nI_add _ 1]
            obtain ⟨hcm, htk⟩ := cm_cu.2.2.2.1 h34 ⟨Or.inr hfc, by omega, by rw [← h.1.1]; exact h82⟩
            have h8 : RM (upd v 8 (nI (t.1 + 2))) A T n r (nxE T n t.1, t.2) := h.at (by omega) (by show skE T n (t.1 + 2) = skE T n (tkE T n t.1); rw [htk])
            rw [show gC2 T n t = _ from if_neg (show ¬ cmE T n t.1 = 0 by omega)]
            have hnx : t.1 < nxE T n t.1 := by
              have : t.1 + 2 ≤ skE T n (tkE T n t.1) := by rw [htk]; exact rnE_ge
              show t.1 < skE T n (tkE T n t.1)
              omega
            refine Rn.step (pc' := 106) rfl rfl ?_
            refine Rn.step (pc' := 107) rfl rfl ?_
            refine Rn.callV (pc' := 110) rfl (by decide) (by omega) rfl rfl rfl (x_M_makes (p := t.1) (c := t.2.1) (by omega) (by exact h.2.1) (by exact h.2.2.2.2.1) h.2.2.2.2.2.1) (fun r_ m_ hc_ => ?_)
            by_cases h60 : t.2.1 < 60
            rotate_left
            · obtain ⟨rfl, rfl⟩ := hc_.2 h60
              rw [show gPa t _ = gFl t 3 from if_neg h60]
              refine Rn.ifc_ne (pc1 := 115) (pc2 := 113) rfl rfl rfl (fun h36 => absurd rfl h36) (fun h36 => ?_)
              refine Rn.iconst (v := 0) (pc' := 114) rfl (by decide) rfl ?_
              refine Rn.iret rfl rfl ?_
              exact gM.bad (((xFA.rfl v A r).vv (by omega)).vv (by omega)) ⟨rfl, by omega⟩
            obtain ⟨rfl, rfl⟩ := hc_.1 h60
            rw [show gPa t _ = _ from if_pos h60]
            refine Rn.ifc_ne (pc1 := 115) (pc2 := 113) rfl rfl rfl (fun h110 => ?_) (fun h110 => absurd h110 (fun z => absurd z (by decide)))
            refine Rn.step (pc' := 116) rfl rfl ?_
            refine Rn.iconst (v := 60) (pc' := 118) rfl (by decide) rfl ?_
            refine Rn.icmp_ne (pc1 := 133) (pc2 := 121) rfl rfl rfl (fun h118 => ?_) (fun h118 => absurd h118 (fun z => absurd (h34.symm.trans z) (by decide)))
            refine Rn.step (pc' := 134) rfl rfl ?_
            refine Rn.iconst (v := 61) (pc' := 136) rfl (by decide) rfl ?_
            refine Rn.icmp_ne (pc1 := 143) (pc2 := 139) rfl rfl rfl (fun h136 => ?_) (fun h136 => absurd h136 (fun z => absurd (h34.symm.trans z) (by decide)))
            refine Rn.step (pc' := 144) rfl rfl ?_
            refine Rn.ifc_eq (pc1 := 151) (pc2 := 147) rfl rfl rfl (fun h144 => absurd h144 (fun z => absurd z (by decide))) (fun h144 => ?_)
            refine Rn.iconst (v := 3) (pc' := 148) rfl (by decide) rfl ?_
            refine Rn.step (pc' := 152) rfl rfl ?_
            refine Rn.step (pc' := 154) rfl rfl ?_
            rw [hcm]
            exact Rn.conseq (l_X_c154 (k := 3) hd (h8.one h60) (by show t.2.2.length < nxE T n t.1; omega)) (fun r_ m_ hg => hg.mono (((xFA.rfl v A r).vv (by omega)).vv (by omega)))
      · rw [show gC2 T n t = gFl t 0 from if_pos (cm_cu.2.2.2.2.2 h22 h28 h34)]
        refine Rn.step (pc' := 38) rfl rfl ?_
        refine Rn.iconst (v := 0) (pc' := 39) rfl (by decide) rfl ?_
        refine Rn.step (pc' := 40) rfl rfl ?_
        refine Rn.vi (pc' := 43) rfl (by decide) (by omega) rfl rfl rfl (x_M_fails (k := 0) (p := t.1) (by exact h.2.1)) ?_
        exact Rn.iret rfl (rfl) (gM.bad (((xFA.rfl v A r).vv (by omega)).vv (by omega)) ⟨rfl, by omega⟩)
theorem x_compare {d : Nat} (hd : 6 ≤ d) (h : RM v A T n r t) (hl : t.2.2.length ≤ t.1) : Cl d j_M_compare [.ref 50] (MM m0 v dx A LA) (gM m0 v dx A LA T n r (gCm T n t)) := by
  show Rn d j_M_compare 0 _ _ _ _
  rw [show gCm T n t = gBd (gSu T n t) (gC2 T n) from rfl]
  refine Rn.step (pc' := 1) rfl rfl ?_
  refine Rn.callV (pc' := 4) rfl (by decide) (by omega) rfl rfl rfl (x_sum (by omega) h hl) (fun r_ m_ hc_ => ?_)
  obtain ⟨v1, A1, rfl, hc1, hg⟩ := hc_
  cases hV : gSu T n t with
  | inl e =>
    rw [hV] at hg
    obtain ⟨rfl, h9⟩ := hg
    refine Rn.ifc_ne (pc1 := 9) (pc2 := 7) rfl rfl rfl (fun h36 => absurd rfl h36) (fun h36 => ?_)
    refine Rn.iconst (v := 0) (pc' := 8) rfl (by decide) rfl ?_
    refine Rn.iret rfl rfl ?_
    exact gM.bad hc1 h9
  | inr z =>
    rw [hV] at hg
    obtain ⟨rfl, h9⟩ := hg
    have hb := gSu_b h.1.2.2.2.1 h.1.le hV
    refine Rn.ifc_ne (pc1 := 9) (pc2 := 7) rfl rfl rfl (fun h4 => ?_) (fun h4 => absurd h4 (by decide))
    exact Rn.conseq (l_X_c9 hd h9 (by omega)) (fun r_ m_ hg => hg.mono hc1)
end T5
end MW2
