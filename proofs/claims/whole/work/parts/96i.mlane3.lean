/-! THE MODEL: lane(). -/
section NL2
variable {m0 : xM} {v : Nat → Int32} {dx : Int64} {A : Nat → Nat → Int32} {LA : Nat → Nat → Int64} {s : Nat → Int32}
section V9
variable {T : Nat → Int32} {n p : Nat} {q : Nat → Int32}
def lnW (k : Nat) : List Nat := ws0.getD k []
theorem wix0_p {j : Nat} (hj : j < 7) (hn : ∀ i, i < j → ¬ wdP T p (leE T n p) (lnW i)) (h : wdP T p (leE T n p) (lnW j)) : wix T p (leE T n p) ws0 0 = nI j := by
  obtain rfl | rfl | rfl | rfl | rfl | rfl | rfl : j = 0 ∨ j = 1 ∨ j = 2 ∨ j = 3 ∨ j = 4 ∨ j = 5 ∨ j = 6 := by omega
  · exact if_pos h
  · exact (if_neg (hn 0 (by omega))).trans (if_pos h)
  · exact (if_neg (hn 0 (by omega))).trans ((if_neg (hn 1 (by omega))).trans (if_pos h))
  · exact (if_neg (hn 0 (by omega))).trans ((if_neg (hn 1 (by omega))).trans ((if_neg (hn 2 (by omega))).trans (if_pos h)))
  · exact (if_neg (hn 0 (by omega))).trans ((if_neg (hn 1 (by omega))).trans ((if_neg (hn 2 (by omega))).trans ((if_neg (hn 3 (by omega))).trans (if_pos h))))
  · exact (if_neg (hn 0 (by omega))).trans ((if_neg (hn 1 (by omega))).trans ((if_neg (hn 2 (by omega))).trans ((if_neg (hn 3 (by omega))).trans ((if_neg (hn 4 (by omega))).trans (if_pos h)))))
  · exact (if_neg (hn 0 (by omega))).trans ((if_neg (hn 1 (by omega))).trans ((if_neg (hn 2 (by omega))).trans ((if_neg (hn 3 (by omega))).trans ((if_neg (hn 4 (by omega))).trans ((if_neg (hn 5 (by omega))).trans (if_pos h))))))
theorem wix0_n (hn : ∀ i, i < 7 → ¬ wdP T p (leE T n p) (lnW i)) : wix T p (leE T n p) ws0 0 = -1 :=
  (if_neg (hn 0 (by omega))).trans ((if_neg (hn 1 (by omega))).trans ((if_neg (hn 2 (by omega))).trans ((if_neg (hn 3 (by omega))).trans ((if_neg (hn 4 (by omega))).trans ((if_neg (hn 5 (by omega))).trans (if_neg (hn 6 (by omega))))))))
/-- which word of a lane stands here, word by word -/
theorem wix0_i {j : Nat} (hj : j < 7) (h : wix T p (leE T n p) ws0 0 = nI j) (i : Nat) (hi : i < 7) : (i < j → ¬ wdP T p (leE T n p) (lnW i)) ∧ (i = j → wdP T p (leE T n p) (lnW i)) := by
  have key : ∀ m, m ≤ 7 → (∀ i, i < m → ¬ wdP T p (leE T n p) (lnW i)) ∨ ∃ i, i < m ∧ wdP T p (leE T n p) (lnW i) ∧ ∀ x, x < i → ¬ wdP T p (leE T n p) (lnW x) := by
    intro m hm
    induction m with
    | zero => exact Or.inl (fun i hi => absurd hi (Nat.not_lt_zero _))
    | succ m ih =>
      rcases ih (by omega) with a | ⟨x, a, b, c⟩
      · by_cases hw : wdP T p (leE T n p) (lnW m)
        · exact Or.inr ⟨m, by omega, hw, a⟩
        · refine Or.inl (fun i hi => ?_)
          by_cases e : i = m
          · subst e
            exact hw
          · exact a i (by omega)
      · exact Or.inr ⟨x, by omega, b, c⟩
  rcases key 7 (Nat.le_refl _) with a | ⟨x, a, b, c⟩
  · rw [wix0_n a] at h
    have : (-1 : Int32).toInt = (nI j).toInt := by rw [h]
    rw [nI_toInt (by omega)] at this
    have e : (-1 : Int32).toInt = -1 := by decide
    omega
  · rw [wix0_p a c b] at h
    have : x = j := (nI_eq (by omega) (by omega)).mp h
    subst this
    exact ⟨fun z => c i z, fun z => by rw [z]; exact b⟩
theorem x_laneWord {d : Nat} (hd : 2 ≤ d) (h : TM v A T n p) : Cl d j_M_isLaneWord [.ref 50] (MM m0 v dx A LA) (Pi (if wix T p (leE T n p) ws0 0 < 0 then 0 else 1) (MM m0 (upd v 8 (nI p)) dx A LA)) := by
  show Rn d j_M_isLaneWord 0 _ _ _ _
  refine Rn.step (pc' := 1) rfl rfl ?_
  refine Rn.ldc2 (v := 1818324581) (pc' := 4) rfl (by decide) rfl ?_
  refine Rn.vi (pc' := 7) rfl (by decide) (by omega) rfl rfl rfl (x_isWord (x := [108, 97, 110, 101]) (by omega) h (by decide) (by decide)) ?_
  refine Rn.ifp_ne (pc1 := 40) (pc2 := 10) rfl rfl rfl (fun h7 => ?_) (fun h7 => ?_)
  · refine Rn.iconst (v := 1) (pc' := 41) rfl (by decide) rfl ?_
    refine Rn.step (pc' := 45) rfl rfl ?_
    refine Rn.step (pc' := 46) rfl rfl ?_
    refine Rn.step (pc' := 47) rfl rfl ?_
    refine Rn.ifc_ne (pc1 := 80) (pc2 := 50) rfl rfl rfl (fun h47 => ?_) (fun h47 => absurd h47 (fun z => absurd z (by decide)))
    refine Rn.iconst (v := 1) (pc' := 81) rfl (by decide) rfl ?_
    refine Rn.step (pc' := 85) rfl rfl ?_
    exact Rn.iret rfl (rfl) (⟨by rw [wix0_p (j := 0) (by omega) (fun i hi => absurd hi (Nat.not_lt_zero _)) h7]; rfl, rfl⟩)
  · refine Rn.step (pc' := 11) rfl rfl ?_
    refine Rn.ldc2 (v := 27710370737579378) (pc' := 14) rfl (by decide) rfl ?_
    refine Rn.vi (pc' := 17) rfl (by decide) (by omega) rfl rfl rfl (x_isWord (x := [98, 114, 111, 116, 104, 101, 114]) (by omega) h.here (by decide) (by decide)) ?_
    rw [updO]
    refine Rn.ifp_ne (pc1 := 40) (pc2 := 20) rfl rfl rfl (fun h17 => ?_) (fun h17 => ?_)
    · refine Rn.iconst (v := 1) (pc' := 41) rfl (by decide) rfl ?_
      refine Rn.step (pc' := 45) rfl rfl ?_
      refine Rn.step (pc' := 46) rfl rfl ?_
      refine Rn.step (pc' := 47) rfl rfl ?_
      refine Rn.ifc_ne (pc1 := 80) (pc2 := 50) rfl rfl rfl (fun h47 => ?_) (fun h47 => absurd h47 (fun z => absurd z (by decide)))
      refine Rn.iconst (v := 1) (pc' := 81) rfl (by decide) rfl ?_
      refine Rn.step (pc' := 85) rfl rfl ?_
      exact Rn.iret rfl (rfl) (⟨by rw [wix0_p (j := 1) (by omega) (fun i hi => by obtain rfl : i = 0 := (by omega); exact h7) h17]; rfl, rfl⟩)
    · refine Rn.step (pc' := 21) rfl rfl ?_
      refine Rn.ldc2 (v := 7824756) (pc' := 24) rfl (by decide) rfl ?_
      refine Rn.vi (pc' := 27) rfl (by decide) (by omega) rfl rfl rfl (x_isWord (x := [119, 101, 116]) (by omega) h.here (by decide) (by decide)) ?_
      rw [updO]
      refine Rn.ifp_ne (pc1 := 40) (pc2 := 30) rfl rfl rfl (fun h27 => ?_) (fun h27 => ?_)
      · refine Rn.iconst (v := 1) (pc' := 41) rfl (by decide) rfl ?_
        refine Rn.step (pc' := 45) rfl rfl ?_
        refine Rn.step (pc' := 46) rfl rfl ?_
        refine Rn.step (pc' := 47) rfl rfl ?_
        refine Rn.ifc_ne (pc1 := 80) (pc2 := 50) rfl rfl rfl (fun h47 => ?_) (fun h47 => absurd h47 (fun z => absurd z (by decide)))
        refine Rn.iconst (v := 1) (pc' := 81) rfl (by decide) rfl ?_
        refine Rn.step (pc' := 85) rfl rfl ?_
        exact Rn.iret rfl (rfl) (⟨by rw [wix0_p (j := 2) (by omega) (fun i hi => by obtain rfl | rfl : i = 0 ∨ i = 1 := (by omega); exact h7; exact h17) h27]; rfl, rfl⟩)
      · refine Rn.step (pc' := 31) rfl rfl ?_
        refine Rn.ldc2 (v := 440006570868) (pc' := 34) rfl (by decide) rfl ?_
        refine Rn.vi (pc' := 37) rfl (by decide) (by omega) rfl rfl rfl (x_isWord (x := [102, 114, 111, 115, 116]) (by omega) h.here (by decide) (by decide)) ?_
        rw [updO]
        refine Rn.ifp_eq (pc1 := 44) (pc2 := 40) rfl rfl rfl (fun h37 => ?_) (fun h37 => ?_)
        · refine Rn.iconst (v := 0) (pc' := 45) rfl (by decide) rfl ?_
          refine Rn.step (pc' := 46) rfl rfl ?_
          refine Rn.step (pc' := 47) rfl rfl ?_
          refine Rn.ifc_ne (pc1 := 80) (pc2 := 50) rfl rfl rfl (fun h47 => absurd h47 (fun z => z rfl)) (fun h47 => ?_)
          refine Rn.step (pc' := 51) rfl rfl ?_
          refine Rn.ldc2 (v := 2002873972) (pc' := 54) rfl (by decide) rfl ?_
          refine Rn.vi (pc' := 57) rfl (by decide) (by omega) rfl rfl rfl (x_isWord (x := [119, 97, 110, 116]) (by omega) h.here (by decide) (by decide)) ?_
          rw [updO]
          refine Rn.ifp_ne (pc1 := 80) (pc2 := 60) rfl rfl rfl (fun h57 => ?_) (fun h57 => ?_)
          · refine Rn.iconst (v := 1) (pc' := 81) rfl (by decide) rfl ?_
            refine Rn.step (pc' := 85) rfl rfl ?_
            exact Rn.iret rfl (rfl) (⟨by rw [wix0_p (j := 4) (by omega) (fun i hi => by obtain rfl | rfl | rfl | rfl : i = 0 ∨ i = 1 ∨ i = 2 ∨ i = 3 := (by omega); exact h7; exact h17; exact h27; exact h37) h57]; rfl, rfl⟩)
          · refine Rn.step (pc' := 61) rfl rfl ?_
            refine Rn.ldc2 (v := 1936682085) (pc' := 64) rfl (by decide) rfl ?_
            refine Rn.vi (pc' := 67) rfl (by decide) (by omega) rfl rfl rfl (x_isWord (x := [115, 111, 108, 101]) (by omega) h.here (by decide) (by decide)) ?_
            rw [updO]
            refine Rn.ifp_ne (pc1 := 80) (pc2 := 70) rfl rfl rfl (fun h67 => ?_) (fun h67 => ?_)
            · refine Rn.iconst (v := 1) (pc' := 81) rfl (by decide) rfl ?_
              refine Rn.step (pc' := 85) rfl rfl ?_
              exact Rn.iret rfl (rfl) (⟨by rw [wix0_p (j := 5) (by omega) (fun i hi => by obtain rfl | rfl | rfl | rfl | rfl : i = 0 ∨ i = 1 ∨ i = 2 ∨ i = 3 ∨ i = 4 := (by omega); exact h7; exact h17; exact h27; exact h37; exact h57) h67]; rfl, rfl⟩)
            · refine Rn.step (pc' := 71) rfl rfl ?_
              refine Rn.ldc2 (v := 422776370291) (pc' := 74) rfl (by decide) rfl ?_
              refine Rn.vi (pc' := 77) rfl (by decide) (by omega) rfl rfl rfl (x_isWord (x := [98, 111, 111, 116, 115]) (by omega) h.here (by decide) (by decide)) ?_
              rw [updO]
              refine Rn.ifp_eq (pc1 := 84) (pc2 := 80) rfl rfl rfl (fun h77 => ?_) (fun h77 => ?_)
              · refine Rn.iconst (v := 0) (pc' := 85) rfl (by decide) rfl ?_
                exact Rn.iret rfl (rfl) (⟨by rw [wix0_n (fun i hi => by obtain rfl | rfl | rfl | rfl | rfl | rfl | rfl : i = 0 ∨ i = 1 ∨ i = 2 ∨ i = 3 ∨ i = 4 ∨ i = 5 ∨ i = 6 := (by omega); exact h7; exact h17; exact h27; exact h37; exact h57; exact h67; exact h77)]; rfl, rfl⟩)
              · refine Rn.iconst (v := 1) (pc' := 81) rfl (by decide) rfl ?_
                refine Rn.step (pc' := 85) rfl rfl ?_
                exact Rn.iret rfl (rfl) (⟨by rw [wix0_p (j := 6) (by omega) (fun i hi => by obtain rfl | rfl | rfl | rfl | rfl | rfl : i = 0 ∨ i = 1 ∨ i = 2 ∨ i = 3 ∨ i = 4 ∨ i = 5 := (by omega); exact h7; exact h17; exact h27; exact h37; exact h57; exact h67) h77]; rfl, rfl⟩)
        · refine Rn.iconst (v := 1) (pc' := 41) rfl (by decide) rfl ?_
          refine Rn.step (pc' := 45) rfl rfl ?_
          refine Rn.step (pc' := 46) rfl rfl ?_
          refine Rn.step (pc' := 47) rfl rfl ?_
          refine Rn.ifc_ne (pc1 := 80) (pc2 := 50) rfl rfl rfl (fun h47 => ?_) (fun h47 => absurd h47 (fun z => absurd z (by decide)))
          refine Rn.iconst (v := 1) (pc' := 81) rfl (by decide) rfl ?_
          refine Rn.step (pc' := 85) rfl rfl ?_
          exact Rn.iret rfl (rfl) (⟨by rw [wix0_p (j := 3) (by omega) (fun i hi => by obtain rfl | rfl | rfl : i = 0 ∨ i = 1 ∨ i = 2 := (by omega); exact h7; exact h17; exact h27) h37]; rfl, rfl⟩)
theorem x_line {d k : Nat} {PP Bn Fn Wn : Nat} (hd : 4 ≤ d) (h : RL v A T n (p, q)) (hv : LV PP Bn Fn Wn q) (hk : k < 7) (hw : wix T p (leE T n p) ws0 0 = nI k) : Cl d j_M_laneLineHere [.ref 50, .int (nI p)] (MM m0 v dx A LA) (gY m0 v dx A LA T n (gLw T n p k q)) := by
  have h4 := h.1.2.2.1
  have hp : p ≤ n := h.1.le
  have hA : A 56 = q := h.2.2
  have hi := wix0_i hk hw
  have hkd := wd_kd (x := lnW k) h.1.2.2.2.1 (by obtain rfl | rfl | rfl | rfl | rfl | rfl | rfl : k = 0 ∨ k = 1 ∨ k = 2 ∨ k = 3 ∨ k = 4 ∨ k = 5 ∨ k = 6 := (by omega); all_goals decide) ((hi k hk).2 rfl)
  have hR : RL (upd v 8 (nI p)) A T n (p, q) := ⟨h.1.here, h.2⟩
  have hFp : xFK v A (upd v 8 (nI p)) A := (xFK.rfl v A).vv (by omega)
  obtain rfl | rfl | rfl | rfl | rfl | rfl | rfl : k = 0 ∨ k = 1 ∨ k = 2 ∨ k = 3 ∨ k = 4 ∨ k = 5 ∨ k = 6 := by omega
  · unfold gLw
    rw [if_pos rfl]
    show Rn d j_M_laneLineHere 0 _ _ _ _
    refine Rn.step (pc' := 1) rfl rfl ?_
    refine Rn.ldc2 (v := 1818324581) (pc' := 4) rfl (by decide) rfl ?_
    refine Rn.vi (pc' := 7) rfl (by decide) (by omega) rfl rfl rfl (x_isWord (x := [108, 97, 110, 101]) (by omega) h.1 (by decide) (by decide)) ?_
    refine Rn.ifp_eq (pc1 := 16) (pc2 := 10) rfl rfl rfl (fun h7 => absurd ((hi 0 (by omega)).2 rfl) h7) (fun h7 => ?_)
    refine Rn.step (pc' := 11) rfl rfl ?_
    refine Rn.step (pc' := 12) rfl rfl ?_
    refine Rn.callV (pc' := 15) rfl (by decide) (by omega) rfl rfl rfl (x_L_1 (by omega) hR rfl hkd hv) (fun r_ m_ hc_ => ?_)
    have hc2 := gY.mono hc_ hFp
    obtain ⟨b, e, _⟩ := gY_ret hc2
    subst e
    exact Rn.iret rfl (gY_nar hc2) hc2
  · unfold gLw
    rw [if_neg (by decide)]
    show Rn d j_M_laneLineHere 0 _ _ _ _
    refine Rn.step (pc' := 1) rfl rfl ?_
    refine Rn.ldc2 (v := 1818324581) (pc' := 4) rfl (by decide) rfl ?_
    refine Rn.vi (pc' := 7) rfl (by decide) (by omega) rfl rfl rfl (x_isWord (x := [108, 97, 110, 101]) (by omega) h.1 (by decide) (by decide)) ?_
    refine Rn.ifp_eq (pc1 := 16) (pc2 := 10) rfl rfl rfl (fun h7 => ?_) (fun h7 => absurd h7 ((hi 0 (by omega)).1 (by omega)))
    refine Rn.step (pc' := 17) rfl rfl ?_
    refine Rn.getf (pc' := 20) rfl rfl rfl rfl rfl ?_
    refine Rn.iconst (v := 0) (pc' := 21) rfl (by decide) rfl ?_
    refine Rn.mald (k := 0) (pc' := 22) rfl rfl (rfl) (by omega) (by decide) rfl ?_
    refine Rn.ifc_ne (pc1 := 32) (pc2 := 25) rfl rfl rfl (fun h22 => ?_) (fun h22 => ?_)
    · rw [if_neg (show ¬ q 0 = 0 by rw [← hA]; exact h22)]
      rw [if_pos rfl]
      refine Rn.step (pc' := 33) rfl rfl ?_
      refine Rn.ldc2 (v := 27710370737579378) (pc' := 36) rfl (by decide) rfl ?_
      refine Rn.vi (pc' := 39) rfl (by decide) (by omega) rfl rfl rfl (x_isWord (x := [98, 114, 111, 116, 104, 101, 114]) (by omega) h.1.here (by decide) (by decide)) ?_
      rw [updO]
      refine Rn.ifp_eq (pc1 := 48) (pc2 := 42) rfl rfl rfl (fun h39 => absurd ((hi 1 (by omega)).2 rfl) h39) (fun h39 => ?_)
      refine Rn.step (pc' := 43) rfl rfl ?_
      refine Rn.step (pc' := 44) rfl rfl ?_
      refine Rn.callV (pc' := 47) rfl (by decide) (by omega) rfl rfl rfl (x_L_2 (by omega) hR rfl hkd hv) (fun r_ m_ hc_ => ?_)
      have hc2 := gY.mono hc_ hFp
      obtain ⟨b, e, _⟩ := gY_ret hc2
      subst e
      exact Rn.iret rfl (gY_nar hc2) hc2
    · rw [if_pos (show q 0 = 0 by rw [← hA]; exact h22)]
      refine Rn.step (pc' := 26) rfl rfl ?_
      refine Rn.iconst (v := 4) (pc' := 27) rfl (by decide) rfl ?_
      refine Rn.step (pc' := 28) rfl rfl ?_
      refine Rn.vi (pc' := 31) rfl (by decide) (by omega) rfl rfl rfl (x_M_fails (k := 4) (p := p) (by exact h.2.1)) ?_
      exact Rn.iret rfl (rfl) (gY.bad (((xFK.rfl v A).vv (by omega)).vv (by omega)) ⟨rfl, by omega⟩)
  · unfold gLw
    rw [if_neg (by decide)]
    show Rn d j_M_laneLineHere 0 _ _ _ _
    refine Rn.step (pc' := 1) rfl rfl ?_
    refine Rn.ldc2 (v := 1818324581) (pc' := 4) rfl (by decide) rfl ?_
    refine Rn.vi (pc' := 7) rfl (by decide) (by omega) rfl rfl rfl (x_isWord (x := [108, 97, 110, 101]) (by omega) h.1 (by decide) (by decide)) ?_
    refine Rn.ifp_eq (pc1 := 16) (pc2 := 10) rfl rfl rfl (fun h7 => ?_) (fun h7 => absurd h7 ((hi 0 (by omega)).1 (by omega)))
    refine Rn.step (pc' := 17) rfl rfl ?_
    refine Rn.getf (pc' := 20) rfl rfl rfl rfl rfl ?_
    refine Rn.iconst (v := 0) (pc' := 21) rfl (by decide) rfl ?_
    refine Rn.mald (k := 0) (pc' := 22) rfl rfl (rfl) (by omega) (by decide) rfl ?_
    refine Rn.ifc_ne (pc1 := 32) (pc2 := 25) rfl rfl rfl (fun h22 => ?_) (fun h22 => ?_)
    · rw [if_neg (show ¬ q 0 = 0 by rw [← hA]; exact h22)]
      rw [if_neg (by decide), if_pos rfl]
      refine Rn.step (pc' := 33) rfl rfl ?_
      refine Rn.ldc2 (v := 27710370737579378) (pc' := 36) rfl (by decide) rfl ?_
      refine Rn.vi (pc' := 39) rfl (by decide) (by omega) rfl rfl rfl (x_isWord (x := [98, 114, 111, 116, 104, 101, 114]) (by omega) h.1.here (by decide) (by decide)) ?_
      rw [updO]
      refine Rn.ifp_eq (pc1 := 48) (pc2 := 42) rfl rfl rfl (fun h39 => ?_) (fun h39 => absurd h39 ((hi 1 (by omega)).1 (by omega)))
      refine Rn.step (pc' := 49) rfl rfl ?_
      refine Rn.ldc2 (v := 7824756) (pc' := 52) rfl (by decide) rfl ?_
      refine Rn.vi (pc' := 55) rfl (by decide) (by omega) rfl rfl rfl (x_isWord (x := [119, 101, 116]) (by omega) h.1.here (by decide) (by decide)) ?_
      rw [updO]
      refine Rn.ifp_eq (pc1 := 63) (pc2 := 58) rfl rfl rfl (fun h55 => absurd ((hi 2 (by omega)).2 rfl) h55) (fun h55 => ?_)
      refine Rn.step (pc' := 59) rfl rfl ?_
      refine Rn.callV (pc' := 62) rfl (by decide) (by omega) rfl rfl rfl (x_L_3 (by omega) hR rfl hkd hv) (fun r_ m_ hc_ => ?_)
      have hc2 := gY.mono hc_ hFp
      obtain ⟨b, e, _⟩ := gY_ret hc2
      subst e
      exact Rn.iret rfl (gY_nar hc2) hc2
    · rw [if_pos (show q 0 = 0 by rw [← hA]; exact h22)]
      refine Rn.step (pc' := 26) rfl rfl ?_
      refine Rn.iconst (v := 4) (pc' := 27) rfl (by decide) rfl ?_
      refine Rn.step (pc' := 28) rfl rfl ?_
      refine Rn.vi (pc' := 31) rfl (by decide) (by omega) rfl rfl rfl (x_M_fails (k := 4) (p := p) (by exact h.2.1)) ?_
      exact Rn.iret rfl (rfl) (gY.bad (((xFK.rfl v A).vv (by omega)).vv (by omega)) ⟨rfl, by omega⟩)
  · unfold gLw
    rw [if_neg (by decide)]
    show Rn d j_M_laneLineHere 0 _ _ _ _
    refine Rn.step (pc' := 1) rfl rfl ?_
    refine Rn.ldc2 (v := 1818324581) (pc' := 4) rfl (by decide) rfl ?_
    refine Rn.vi (pc' := 7) rfl (by decide) (by omega) rfl rfl rfl (x_isWord (x := [108, 97, 110, 101]) (by omega) h.1 (by decide) (by decide)) ?_
    refine Rn.ifp_eq (pc1 := 16) (pc2 := 10) rfl rfl rfl (fun h7 => ?_) (fun h7 => absurd h7 ((hi 0 (by omega)).1 (by omega)))
    refine Rn.step (pc' := 17) rfl rfl ?_
    refine Rn.getf (pc' := 20) rfl rfl rfl rfl rfl ?_
    refine Rn.iconst (v := 0) (pc' := 21) rfl (by decide) rfl ?_
    refine Rn.mald (k := 0) (pc' := 22) rfl rfl (rfl) (by omega) (by decide) rfl ?_
    refine Rn.ifc_ne (pc1 := 32) (pc2 := 25) rfl rfl rfl (fun h22 => ?_) (fun h22 => ?_)
    · rw [if_neg (show ¬ q 0 = 0 by rw [← hA]; exact h22)]
      rw [if_neg (by decide), if_neg (by decide), if_pos rfl]
      refine Rn.step (pc' := 33) rfl rfl ?_
      refine Rn.ldc2 (v := 27710370737579378) (pc' := 36) rfl (by decide) rfl ?_
      refine Rn.vi (pc' := 39) rfl (by decide) (by omega) rfl rfl rfl (x_isWord (x := [98, 114, 111, 116, 104, 101, 114]) (by omega) h.1.here (by decide) (by decide)) ?_
      rw [updO]
      refine Rn.ifp_eq (pc1 := 48) (pc2 := 42) rfl rfl rfl (fun h39 => ?_) (fun h39 => absurd h39 ((hi 1 (by omega)).1 (by omega)))
      refine Rn.step (pc' := 49) rfl rfl ?_
      refine Rn.ldc2 (v := 7824756) (pc' := 52) rfl (by decide) rfl ?_
      refine Rn.vi (pc' := 55) rfl (by decide) (by omega) rfl rfl rfl (x_isWord (x := [119, 101, 116]) (by omega) h.1.here (by decide) (by decide)) ?_
      rw [updO]
      refine Rn.ifp_eq (pc1 := 63) (pc2 := 58) rfl rfl rfl (fun h55 => ?_) (fun h55 => absurd h55 ((hi 2 (by omega)).1 (by omega)))
      refine Rn.step (pc' := 64) rfl rfl ?_
      refine Rn.ldc2 (v := 440006570868) (pc' := 67) rfl (by decide) rfl ?_
      refine Rn.vi (pc' := 70) rfl (by decide) (by omega) rfl rfl rfl (x_isWord (x := [102, 114, 111, 115, 116]) (by omega) h.1.here (by decide) (by decide)) ?_
      rw [updO]
      refine Rn.ifp_eq (pc1 := 79) (pc2 := 73) rfl rfl rfl (fun h70 => absurd ((hi 3 (by omega)).2 rfl) h70) (fun h70 => ?_)
      refine Rn.step (pc' := 74) rfl rfl ?_
      refine Rn.step (pc' := 75) rfl rfl ?_
      refine Rn.callV (pc' := 78) rfl (by decide) (by omega) rfl rfl rfl (x_L_4 (by omega) hR rfl hkd hv) (fun r_ m_ hc_ => ?_)
      have hc2 := gY.mono hc_ hFp
      obtain ⟨b, e, _⟩ := gY_ret hc2
      subst e
      exact Rn.iret rfl (gY_nar hc2) hc2
    · rw [if_pos (show q 0 = 0 by rw [← hA]; exact h22)]
      refine Rn.step (pc' := 26) rfl rfl ?_
      refine Rn.iconst (v := 4) (pc' := 27) rfl (by decide) rfl ?_
      refine Rn.step (pc' := 28) rfl rfl ?_
      refine Rn.vi (pc' := 31) rfl (by decide) (by omega) rfl rfl rfl (x_M_fails (k := 4) (p := p) (by exact h.2.1)) ?_
      exact Rn.iret rfl (rfl) (gY.bad (((xFK.rfl v A).vv (by omega)).vv (by omega)) ⟨rfl, by omega⟩)
  · unfold gLw
    rw [if_neg (by decide)]
    show Rn d j_M_laneLineHere 0 _ _ _ _
    refine Rn.step (pc' := 1) rfl rfl ?_
    refine Rn.ldc2 (v := 1818324581) (pc' := 4) rfl (by decide) rfl ?_
    refine Rn.vi (pc' := 7) rfl (by decide) (by omega) rfl rfl rfl (x_isWord (x := [108, 97, 110, 101]) (by omega) h.1 (by decide) (by decide)) ?_
    refine Rn.ifp_eq (pc1 := 16) (pc2 := 10) rfl rfl rfl (fun h7 => ?_) (fun h7 => absurd h7 ((hi 0 (by omega)).1 (by omega)))
    refine Rn.step (pc' := 17) rfl rfl ?_
    refine Rn.getf (pc' := 20) rfl rfl rfl rfl rfl ?_
    refine Rn.iconst (v := 0) (pc' := 21) rfl (by decide) rfl ?_
    refine Rn.mald (k := 0) (pc' := 22) rfl rfl (rfl) (by omega) (by decide) rfl ?_
    refine Rn.ifc_ne (pc1 := 32) (pc2 := 25) rfl rfl rfl (fun h22 => ?_) (fun h22 => ?_)
    · rw [if_neg (show ¬ q 0 = 0 by rw [← hA]; exact h22)]
      rw [if_neg (by decide), if_neg (by decide), if_neg (by decide), if_pos rfl]
      refine Rn.step (pc' := 33) rfl rfl ?_
      refine Rn.ldc2 (v := 27710370737579378) (pc' := 36) rfl (by decide) rfl ?_
      refine Rn.vi (pc' := 39) rfl (by decide) (by omega) rfl rfl rfl (x_isWord (x := [98, 114, 111, 116, 104, 101, 114]) (by omega) h.1.here (by decide) (by decide)) ?_
      rw [updO]
      refine Rn.ifp_eq (pc1 := 48) (pc2 := 42) rfl rfl rfl (fun h39 => ?_) (fun h39 => absurd h39 ((hi 1 (by omega)).1 (by omega)))
      refine Rn.step (pc' := 49) rfl rfl ?_
      refine Rn.ldc2 (v := 7824756) (pc' := 52) rfl (by decide) rfl ?_
      refine Rn.vi (pc' := 55) rfl (by decide) (by omega) rfl rfl rfl (x_isWord (x := [119, 101, 116]) (by omega) h.1.here (by decide) (by decide)) ?_
      rw [updO]
      refine Rn.ifp_eq (pc1 := 63) (pc2 := 58) rfl rfl rfl (fun h55 => ?_) (fun h55 => absurd h55 ((hi 2 (by omega)).1 (by omega)))
      refine Rn.step (pc' := 64) rfl rfl ?_
      refine Rn.ldc2 (v := 440006570868) (pc' := 67) rfl (by decide) rfl ?_
      refine Rn.vi (pc' := 70) rfl (by decide) (by omega) rfl rfl rfl (x_isWord (x := [102, 114, 111, 115, 116]) (by omega) h.1.here (by decide) (by decide)) ?_
      rw [updO]
      refine Rn.ifp_eq (pc1 := 79) (pc2 := 73) rfl rfl rfl (fun h70 => ?_) (fun h70 => absurd h70 ((hi 3 (by omega)).1 (by omega)))
      refine Rn.step (pc' := 80) rfl rfl ?_
      refine Rn.ldc2 (v := 2002873972) (pc' := 83) rfl (by decide) rfl ?_
      refine Rn.vi (pc' := 86) rfl (by decide) (by omega) rfl rfl rfl (x_isWord (x := [119, 97, 110, 116]) (by omega) h.1.here (by decide) (by decide)) ?_
      rw [updO]
      refine Rn.ifp_eq (pc1 := 95) (pc2 := 89) rfl rfl rfl (fun h86 => absurd ((hi 4 (by omega)).2 rfl) h86) (fun h86 => ?_)
      refine Rn.step (pc' := 90) rfl rfl ?_
      refine Rn.step (pc' := 91) rfl rfl ?_
      refine Rn.callV (pc' := 94) rfl (by decide) (by omega) rfl rfl rfl (x_L_5 (by omega) hR rfl hkd hv) (fun r_ m_ hc_ => ?_)
      have hc2 := gY.mono hc_ hFp
      obtain ⟨b, e, _⟩ := gY_ret hc2
      subst e
      exact Rn.iret rfl (gY_nar hc2) hc2
    · rw [if_pos (show q 0 = 0 by rw [← hA]; exact h22)]
      refine Rn.step (pc' := 26) rfl rfl ?_
      refine Rn.iconst (v := 4) (pc' := 27) rfl (by decide) rfl ?_
      refine Rn.step (pc' := 28) rfl rfl ?_
      refine Rn.vi (pc' := 31) rfl (by decide) (by omega) rfl rfl rfl (x_M_fails (k := 4) (p := p) (by exact h.2.1)) ?_
      exact Rn.iret rfl (rfl) (gY.bad (((xFK.rfl v A).vv (by omega)).vv (by omega)) ⟨rfl, by omega⟩)
  · unfold gLw
    rw [if_neg (by decide)]
    show Rn d j_M_laneLineHere 0 _ _ _ _
    refine Rn.step (pc' := 1) rfl rfl ?_
    refine Rn.ldc2 (v := 1818324581) (pc' := 4) rfl (by decide) rfl ?_
    refine Rn.vi (pc' := 7) rfl (by decide) (by omega) rfl rfl rfl (x_isWord (x := [108, 97, 110, 101]) (by omega) h.1 (by decide) (by decide)) ?_
    refine Rn.ifp_eq (pc1 := 16) (pc2 := 10) rfl rfl rfl (fun h7 => ?_) (fun h7 => absurd h7 ((hi 0 (by omega)).1 (by omega)))
    refine Rn.step (pc' := 17) rfl rfl ?_
    refine Rn.getf (pc' := 20) rfl rfl rfl rfl rfl ?_
    refine Rn.iconst (v := 0) (pc' := 21) rfl (by decide) rfl ?_
    refine Rn.mald (k := 0) (pc' := 22) rfl rfl (rfl) (by omega) (by decide) rfl ?_
    refine Rn.ifc_ne (pc1 := 32) (pc2 := 25) rfl rfl rfl (fun h22 => ?_) (fun h22 => ?_)
    · rw [if_neg (show ¬ q 0 = 0 by rw [← hA]; exact h22)]
      rw [if_neg (by decide), if_neg (by decide), if_neg (by decide), if_neg (by decide), if_pos rfl]
      refine Rn.step (pc' := 33) rfl rfl ?_
      refine Rn.ldc2 (v := 27710370737579378) (pc' := 36) rfl (by decide) rfl ?_
      refine Rn.vi (pc' := 39) rfl (by decide) (by omega) rfl rfl rfl (x_isWord (x := [98, 114, 111, 116, 104, 101, 114]) (by omega) h.1.here (by decide) (by decide)) ?_
      rw [updO]
      refine Rn.ifp_eq (pc1 := 48) (pc2 := 42) rfl rfl rfl (fun h39 => ?_) (fun h39 => absurd h39 ((hi 1 (by omega)).1 (by omega)))
      refine Rn.step (pc' := 49) rfl rfl ?_
      refine Rn.ldc2 (v := 7824756) (pc' := 52) rfl (by decide) rfl ?_
      refine Rn.vi (pc' := 55) rfl (by decide) (by omega) rfl rfl rfl (x_isWord (x := [119, 101, 116]) (by omega) h.1.here (by decide) (by decide)) ?_
      rw [updO]
      refine Rn.ifp_eq (pc1 := 63) (pc2 := 58) rfl rfl rfl (fun h55 => ?_) (fun h55 => absurd h55 ((hi 2 (by omega)).1 (by omega)))
      refine Rn.step (pc' := 64) rfl rfl ?_
      refine Rn.ldc2 (v := 440006570868) (pc' := 67) rfl (by decide) rfl ?_
      refine Rn.vi (pc' := 70) rfl (by decide) (by omega) rfl rfl rfl (x_isWord (x := [102, 114, 111, 115, 116]) (by omega) h.1.here (by decide) (by decide)) ?_
      rw [updO]
      refine Rn.ifp_eq (pc1 := 79) (pc2 := 73) rfl rfl rfl (fun h70 => ?_) (fun h70 => absurd h70 ((hi 3 (by omega)).1 (by omega)))
      refine Rn.step (pc' := 80) rfl rfl ?_
      refine Rn.ldc2 (v := 2002873972) (pc' := 83) rfl (by decide) rfl ?_
      refine Rn.vi (pc' := 86) rfl (by decide) (by omega) rfl rfl rfl (x_isWord (x := [119, 97, 110, 116]) (by omega) h.1.here (by decide) (by decide)) ?_
      rw [updO]
      refine Rn.ifp_eq (pc1 := 95) (pc2 := 89) rfl rfl rfl (fun h86 => ?_) (fun h86 => absurd h86 ((hi 4 (by omega)).1 (by omega)))
      refine Rn.step (pc' := 96) rfl rfl ?_
      refine Rn.ldc2 (v := 1936682085) (pc' := 99) rfl (by decide) rfl ?_
      refine Rn.vi (pc' := 102) rfl (by decide) (by omega) rfl rfl rfl (x_isWord (x := [115, 111, 108, 101]) (by omega) h.1.here (by decide) (by decide)) ?_
      rw [updO]
      refine Rn.ifp_eq (pc1 := 113) (pc2 := 105) rfl rfl rfl (fun h102 => absurd ((hi 5 (by omega)).2 rfl) h102) (fun h102 => ?_)
      refine Rn.step (pc' := 106) rfl rfl ?_
      refine Rn.step (pc' := 107) rfl rfl ?_
      refine Rn.callV (pc' := 110) rfl (by decide) (by omega) rfl rfl rfl (x_L_6 (by omega) hR rfl hkd hv) (fun r_ m_ hc_ => ?_)
      have hc2 := gY.mono hc_ hFp
      obtain ⟨b, e, _⟩ := gY_ret hc2
      subst e
      refine Rn.step (pc' := 118) rfl rfl ?_
      exact Rn.iret rfl (gY_nar hc2) hc2
    · rw [if_pos (show q 0 = 0 by rw [← hA]; exact h22)]
      refine Rn.step (pc' := 26) rfl rfl ?_
      refine Rn.iconst (v := 4) (pc' := 27) rfl (by decide) rfl ?_
      refine Rn.step (pc' := 28) rfl rfl ?_
      refine Rn.vi (pc' := 31) rfl (by decide) (by omega) rfl rfl rfl (x_M_fails (k := 4) (p := p) (by exact h.2.1)) ?_
      exact Rn.iret rfl (rfl) (gY.bad (((xFK.rfl v A).vv (by omega)).vv (by omega)) ⟨rfl, by omega⟩)
  · unfold gLw
    rw [if_neg (by decide)]
    show Rn d j_M_laneLineHere 0 _ _ _ _
    refine Rn.step (pc' := 1) rfl rfl ?_
    refine Rn.ldc2 (v := 1818324581) (pc' := 4) rfl (by decide) rfl ?_
    refine Rn.vi (pc' := 7) rfl (by decide) (by omega) rfl rfl rfl (x_isWord (x := [108, 97, 110, 101]) (by omega) h.1 (by decide) (by decide)) ?_
    refine Rn.ifp_eq (pc1 := 16) (pc2 := 10) rfl rfl rfl (fun h7 => ?_) (fun h7 => absurd h7 ((hi 0 (by omega)).1 (by omega)))
    refine Rn.step (pc' := 17) rfl rfl ?_
    refine Rn.getf (pc' := 20) rfl rfl rfl rfl rfl ?_
    refine Rn.iconst (v := 0) (pc' := 21) rfl (by decide) rfl ?_
    refine Rn.mald (k := 0) (pc' := 22) rfl rfl (rfl) (by omega) (by decide) rfl ?_
    refine Rn.ifc_ne (pc1 := 32) (pc2 := 25) rfl rfl rfl (fun h22 => ?_) (fun h22 => ?_)
    · rw [if_neg (show ¬ q 0 = 0 by rw [← hA]; exact h22)]
      rw [if_neg (by decide), if_neg (by decide), if_neg (by decide), if_neg (by decide), if_neg (by decide)]
      refine Rn.step (pc' := 33) rfl rfl ?_
      refine Rn.ldc2 (v := 27710370737579378) (pc' := 36) rfl (by decide) rfl ?_
      refine Rn.vi (pc' := 39) rfl (by decide) (by omega) rfl rfl rfl (x_isWord (x := [98, 114, 111, 116, 104, 101, 114]) (by omega) h.1.here (by decide) (by decide)) ?_
      rw [updO]
      refine Rn.ifp_eq (pc1 := 48) (pc2 := 42) rfl rfl rfl (fun h39 => ?_) (fun h39 => absurd h39 ((hi 1 (by omega)).1 (by omega)))
      refine Rn.step (pc' := 49) rfl rfl ?_
      refine Rn.ldc2 (v := 7824756) (pc' := 52) rfl (by decide) rfl ?_
      refine Rn.vi (pc' := 55) rfl (by decide) (by omega) rfl rfl rfl (x_isWord (x := [119, 101, 116]) (by omega) h.1.here (by decide) (by decide)) ?_
      rw [updO]
      refine Rn.ifp_eq (pc1 := 63) (pc2 := 58) rfl rfl rfl (fun h55 => ?_) (fun h55 => absurd h55 ((hi 2 (by omega)).1 (by omega)))
      refine Rn.step (pc' := 64) rfl rfl ?_
      refine Rn.ldc2 (v := 440006570868) (pc' := 67) rfl (by decide) rfl ?_
      refine Rn.vi (pc' := 70) rfl (by decide) (by omega) rfl rfl rfl (x_isWord (x := [102, 114, 111, 115, 116]) (by omega) h.1.here (by decide) (by decide)) ?_
      rw [updO]
      refine Rn.ifp_eq (pc1 := 79) (pc2 := 73) rfl rfl rfl (fun h70 => ?_) (fun h70 => absurd h70 ((hi 3 (by omega)).1 (by omega)))
      refine Rn.step (pc' := 80) rfl rfl ?_
      refine Rn.ldc2 (v := 2002873972) (pc' := 83) rfl (by decide) rfl ?_
      refine Rn.vi (pc' := 86) rfl (by decide) (by omega) rfl rfl rfl (x_isWord (x := [119, 97, 110, 116]) (by omega) h.1.here (by decide) (by decide)) ?_
      rw [updO]
      refine Rn.ifp_eq (pc1 := 95) (pc2 := 89) rfl rfl rfl (fun h86 => ?_) (fun h86 => absurd h86 ((hi 4 (by omega)).1 (by omega)))
      refine Rn.step (pc' := 96) rfl rfl ?_
      refine Rn.ldc2 (v := 1936682085) (pc' := 99) rfl (by decide) rfl ?_
      refine Rn.vi (pc' := 102) rfl (by decide) (by omega) rfl rfl rfl (x_isWord (x := [115, 111, 108, 101]) (by omega) h.1.here (by decide) (by decide)) ?_
      rw [updO]
      refine Rn.ifp_eq (pc1 := 113) (pc2 := 105) rfl rfl rfl (fun h102 => ?_) (fun h102 => absurd h102 ((hi 5 (by omega)).1 (by omega)))
      refine Rn.step (pc' := 114) rfl rfl ?_
      refine Rn.step (pc' := 115) rfl rfl ?_
      refine Rn.callV (pc' := 118) rfl (by decide) (by omega) rfl rfl rfl (x_L_7 (by omega) hR rfl hkd hv) (fun r_ m_ hc_ => ?_)
      have hc2 := gY.mono hc_ hFp
      obtain ⟨b, e, _⟩ := gY_ret hc2
      subst e
      exact Rn.iret rfl (gY_nar hc2) hc2
    · rw [if_pos (show q 0 = 0 by rw [← hA]; exact h22)]
      refine Rn.step (pc' := 26) rfl rfl ?_
      refine Rn.iconst (v := 4) (pc' := 27) rfl (by decide) rfl ?_
      refine Rn.step (pc' := 28) rfl rfl ?_
      refine Rn.vi (pc' := 31) rfl (by decide) (by omega) rfl rfl rfl (x_M_fails (k := 4) (p := p) (by exact h.2.1)) ?_
      exact Rn.iret rfl (rfl) (gY.bad (((xFK.rfl v A).vv (by omega)).vv (by omega)) ⟨rfl, by omega⟩)
end V9
end NL2
