/-! THE MODEL: a lane is read. -/
section NM2
variable {m0 : xM} {v : Nat → Int32} {dx : Int64} {A : Nat → Nat → Int32} {LA : Nat → Nat → Int64} {s : Nat → Int32}
section W1
variable {T : Nat → Int32} {n p : Nat} {q : Nat → Int32}
def xFM (v : Nat → Int32) (A : Nat → Nat → Int32) (v1 : Nat → Int32) (A1 : Nat → Nat → Int32) : Prop := (∀ k, k ≠ 1 → k ≠ 8 → k ≠ 9 → k ≠ 10 → k ≠ 12 → k ≠ 14 → v1 k = v k) ∧ (∀ k, k ≠ 53 → k ≠ 56 → A1 k = A k) ∧ ∀ k, k ≠ 6 → A1 53 k = A 53 k
theorem xFM.rfl (v : Nat → Int32) (A : Nat → Nat → Int32) : xFM v A v A := ⟨fun _ _ _ _ _ _ _ => Eq.refl _, fun _ _ _ => Eq.refl _, fun _ _ => Eq.refl _⟩
theorem xFM.trans {v1 v2 : Nat → Int32} {A1 A2 : Nat → Nat → Int32} (h : xFM v A v1 A1) (g : xFM v1 A1 v2 A2) : xFM v A v2 A2 := ⟨fun k a b c d e f => (g.1 k a b c d e f).trans (h.1 k a b c d e f), fun k a b => (g.2.1 k a b).trans (h.2.1 k a b), fun k a => (g.2.2 k a).trans (h.2.2 k a)⟩
theorem xFM.vv {v1 : Nat → Int32} {A1 : Nat → Nat → Int32} {k : Nat} {x : Int32} (h : xFM v A v1 A1) (hk : k = 1 ∨ k = 8 ∨ k = 9 ∨ k = 10 ∨ k = 12 ∨ k = 14) : xFM v A (upd v1 k x) A1 := ⟨fun j a b c d e f => (if_neg (show ¬ j = k by omega)).trans (h.1 j a b c d e f), h.2⟩
theorem xFK.mm {v1 : Nat → Int32} {A1 : Nat → Nat → Int32} (h : xFK v A v1 A1) : xFM v A v1 A1 := ⟨fun k _ b c d _ _ => h.1 k b c d, fun k _ b => h.2 k b, fun k _ => by rw [h.2 53 (by decide)]⟩
def gZK (v1 : Nat → Int32) (A1 : Nat → Nat → Int32) (T : Nat → Int32) (n k : Nat) (o : Option Value) : gX → Prop
  | .inl e => o = some (.int 0) ∧ badE v1 e
  | .inr z => o = some (.int 1) ∧ RL v1 A1 T n z ∧ v1 14 = nI (k + 1) ∧ v1 11 = 6
def gZ (m0 : xM) (v : Nat → Int32) (dx : Int64) (A : Nat → Nat → Int32) (LA : Nat → Nat → Int64) (T : Nat → Int32) (n k : Nat) (x : gX) (o : Option Value) (m2 : xM) : Prop := ∃ v1 A1, m2 = MM m0 v1 dx A1 LA ∧ xFM v A v1 A1 ∧ gZK v1 A1 T n k o x
theorem x_clauseL {d k PP Bn Fn Wn : Nat} (hd : 5 ≤ d) (h : RL v A T n (p, q)) (h11 : v 11 = 6) (h14 : v 14 = nI k) (hk : k ≤ 40) (hv : LV PP Bn Fn Wn q) : Cl d j_M_clauseHere [.ref 50] (MM m0 v dx A LA) (gZ m0 v dx A LA T n k (gLc T n k (p, q))) := by
  have h4 := h.1.2.2.1
  have hp : p ≤ n := h.1.le
  show Rn d j_M_clauseHere 0 _ _ _ _
  refine Rn.step (pc' := 1) rfl rfl ?_
  refine Rn.vi (pc' := 4) rfl (by decide) (by omega) rfl rfl rfl (x_see h.1) ?_
  refine Rn.step (pc' := 5) rfl rfl ?_
  refine Rn.step (pc' := 6) rfl rfl ?_
  refine Rn.getf (pc' := 9) rfl rfl rfl rfl rfl ?_
  refine Rn.step (pc' := 10) rfl rfl ?_
  refine Rn.step (pc' := 11) rfl rfl ?_
  refine Rn.getf (pc' := 14) rfl rfl rfl rfl rfl ?_
  refine Rn.iconst (v := 6) (pc' := 16) rfl (by decide) rfl ?_
  refine Rn.icmp_ne (pc1 := 23) (pc2 := 19) rfl rfl rfl (fun h16 => absurd h16 (fun z => z (by exact h11))) (fun h16 => ?_)
  refine Rn.iconst (v := 1) (pc' := 20) rfl (by decide) rfl ?_
  refine Rn.step (pc' := 24) rfl rfl ?_
  refine Rn.step (pc' := 25) rfl rfl ?_
  refine Rn.step (pc' := 26) rfl rfl ?_
  refine Rn.ifc_eq (pc1 := 39) (pc2 := 29) rfl rfl rfl (fun h26 => absurd h26 (fun z => absurd z (by decide))) (fun h26 => ?_)
  refine Rn.step (pc' := 30) rfl rfl ?_
  refine Rn.vi (pc' := 33) rfl (by decide) (by omega) rfl rfl rfl (x_laneWord (by omega) h.1.here) ?_
  rw [updO]
  refine Rn.ifq_ne (pc1 := 56) (pc2 := 36) rfl rfl rfl (fun h33 => ?_) (fun h33 => ?_)
  · 
    refine Rn.step (pc' := 57) rfl rfl ?_
    refine Rn.getf (pc' := 60) rfl rfl rfl rfl rfl ?_
    refine Rn.step (pc' := 61) rfl rfl ?_
    refine Rn.ifc_eq (pc1 := 69) (pc2 := 64) rfl rfl rfl (fun h61 => absurd h61 (fun z => absurd z (by decide))) (fun h61 => ?_)
    refine Rn.iconst (v := 40) (pc' := 66) rfl (by decide) rfl ?_
    refine Rn.step (pc' := 71) rfl rfl ?_
    refine Rn.icmp_ne (pc1 := 81) (pc2 := 74) rfl rfl rfl (fun h71 => ?_) (fun h71 => ?_)
    · have hk40 : ¬ k = 40 := fun z => h71 (by show v 14 = 40; rw [h14, z]; rfl)
      obtain ⟨wd, hw7, ew⟩ : ∃ wd, wd < 7 ∧ wix T p (leE T n p) ws0 0 = nI wd := by
        rcases wix_r (T := T) (p := p) (q := leE T n p) ws0 0 with e | ⟨j, _, b, e⟩
        · rw [e] at h33
          exact absurd (by decide) h33
        · exact ⟨j, by rw [Nat.zero_add] at b; exact b, e⟩
      rw [show gLc T n k (p, q) = gLw T n p (cN (wix T p (leE T n p) ws0 0)) q from (if_neg h33).trans (if_neg hk40), ew, show cN (nI wd) = wd from nI_clamp (by omega)]
      refine Rn.step (pc' := 82) rfl rfl ?_
      refine Rn.step (pc' := 83) rfl rfl ?_
      refine Rn.getf (pc' := 86) rfl rfl rfl rfl rfl ?_
      refine Rn.iconst (v := 1) (pc' := 87) rfl (by decide) rfl ?_
      refine Rn.iadd (pc' := 88) rfl rfl ?_
      rw [show upd v 8 (nI p) 14 + 1 = nI (k + 1) by show v 14 + 1 = _; rw [h14, nI_lit, nI_add]]
      refine Rn.mput (pc' := 91) rfl rfl rfl rfl (by decide) rfl ?_
      have hR : RL (upd (upd v 8 (nI p)) 14 (nI (k + 1))) A T n (p, q) := ⟨h.1.here, h.2⟩
      refine Rn.step (pc' := 92) rfl rfl ?_
      refine Rn.ifc_eq (pc1 := 103) (pc2 := 95) rfl rfl rfl (fun h92 => absurd h92 (fun z => absurd z (by decide))) (fun h92 => ?_)
      refine Rn.step (pc' := 96) rfl rfl ?_
      refine Rn.step (pc' := 97) rfl rfl ?_
      refine Rn.callV (pc' := 100) rfl (by decide) (by omega) rfl rfl rfl (x_line (k := wd) (by omega) hR hv hw7 ew) (fun r_ m_ hc_ => ?_)
      obtain ⟨v1, A1, rfl, hF1, hg⟩ := hc_
      have hF2 : xFM v A v1 A1 := (((xFM.rfl v A).vv (by omega)).vv (by omega)).trans hF1.mm
      cases hX : gLw T n p wd q with
      | inl e =>
        rw [hX] at hg
        obtain ⟨rfl, h9⟩ := hg
        refine Rn.step (pc' := 107) rfl rfl ?_
        exact Rn.iret rfl rfl ⟨_, _, rfl, hF2, rfl, h9⟩
      | inr z =>
        rw [hX] at hg
        obtain ⟨rfl, hR2⟩ := hg
        refine Rn.step (pc' := 107) rfl rfl ?_
        exact Rn.iret rfl rfl ⟨_, _, rfl, hF2, rfl, hR2, hF1.1 14 (by decide) (by decide) (by decide), (hF1.1 11 (by decide) (by decide) (by decide)).trans h11⟩
    · rw [show gLc T n k (p, q) = .inl (1 + 8 * p + 4) from (if_neg h33).trans (if_pos ((nI_eq (a := k) (b := 40) (by omega) (by omega)).mp (by rw [← h14]; exact h71)))]
      refine Rn.step (pc' := 75) rfl rfl ?_
      refine Rn.iconst (v := 4) (pc' := 76) rfl (by decide) rfl ?_
      refine Rn.step (pc' := 77) rfl rfl ?_
      refine Rn.vi (pc' := 80) rfl (by decide) (by omega) rfl rfl rfl (x_M_fails (k := 4) (p := p) (by exact h.2.1)) ?_
      exact Rn.iret rfl (rfl) (⟨_, _, rfl, ((xFM.rfl v A).vv (by omega)).vv (by omega), rfl, rfl, by omega⟩)
  · refine Rn.step (pc' := 49) rfl rfl ?_
    rw [show gLc T n k (p, q) = .inl (1 + 8 * p + 0) from if_pos h33]
    refine Rn.step (pc' := 50) rfl rfl ?_
    refine Rn.iconst (v := 0) (pc' := 51) rfl (by decide) rfl ?_
    refine Rn.step (pc' := 52) rfl rfl ?_
    refine Rn.vi (pc' := 55) rfl (by decide) (by omega) rfl rfl rfl (x_M_fails (k := 0) (p := p) (by exact h.2.1)) ?_
    exact Rn.iret rfl (rfl) (⟨_, _, rfl, ((xFM.rfl v A).vv (by omega)).vv (by omega), rfl, rfl, by omega⟩)
def gVK (v1 : Nat → Int32) (A1 : Nat → Nat → Int32) (o : Option Value) : gX → Prop
  | .inl e => o = some (.int 0) ∧ badE v1 e
  | .inr z => o = some (.int 1) ∧ A1 56 = z.2
def gVP (m0 : xM) (v : Nat → Int32) (dx : Int64) (A : Nat → Nat → Int32) (LA : Nat → Nat → Int64) (x : gX) (o : Option Value) (m2 : xM) : Prop := ∃ v1 A1, m2 = MM m0 v1 dx A1 LA ∧ xFM v A v1 A1 ∧ v1 1 = 0 ∧ gVK v1 A1 o x
theorem gVP.mono {v1 : Nat → Int32} {A1 : Nat → Nat → Int32} {x : gX} {o : Option Value} {m2 : xM} (h : gVP m0 v1 dx A1 LA x o m2) (hc : xFM v A v1 A1) : gVP m0 v dx A LA x o m2 := by
  obtain ⟨v2, A2, e, c, g⟩ := h
  exact ⟨v2, A2, e, hc.trans c, g⟩
theorem l_Y_bad {d e : Nat} (he : badE v e) : Rn d j_M_readsAll 35 [.ref 50, .int 0] [] (MM m0 v dx A LA) (gVP m0 v dx A LA (.inl e)) := by
  have he1 := he.2
  refine Rn.step (pc' := 36) rfl rfl ?_
  refine Rn.ifc_eq (pc1 := 66) (pc2 := 39) rfl rfl rfl (fun h36 => ?_) (fun h36 => absurd (rfl) h36)
  refine Rn.step (pc' := 67) rfl rfl ?_
  refine Rn.ifc_eq (pc1 := 88) (pc2 := 70) rfl rfl rfl (fun h67 => ?_) (fun h67 => absurd (rfl) h67)
  refine Rn.step (pc' := 89) rfl rfl ?_
  refine Rn.iconst (v := 0) (pc' := 90) rfl (by decide) rfl ?_
  refine Rn.mput (pc' := 93) rfl rfl rfl rfl (by decide) rfl ?_
  refine Rn.step (pc' := 94) rfl rfl ?_
  refine Rn.getf (pc' := 97) rfl rfl rfl rfl rfl ?_
  refine Rn.ifc_ne (pc1 := 104) (pc2 := 100) rfl rfl rfl (fun h97 => ?_) (fun h97 => absurd h97 (fun z => absurd ((nI_eq (a := e) (b := 0) (by omega) (by omega)).mp (by rw [← he.1]; exact z)) (by omega)))
  refine Rn.iconst (v := 0) (pc' := 105) rfl (by decide) rfl ?_
  exact Rn.iret rfl (rfl) (⟨_, _, rfl, (xFM.rfl v A).vv (by omega), rfl, rfl, he⟩)
theorem l_Y_rd {d : Nat} (hd : 6 ≤ d) (f k : Nat) (v : Nat → Int32) (A : Nat → Nat → Int32) (p : Nat) (q : Nat → Int32) (PP Bn Fn Wn : Nat) (h : RL v A T n (p, q)) (h11 : v 11 = 6) (h14 : v 14 = nI k) (hk40 : k ≤ 40) (hf : f + k = 41) (hv : LV PP Bn Fn Wn q) : Rn d j_M_readsAll 35 [.ref 50, .int 1] [] (MM m0 v dx A LA) (gVP m0 v dx A LA (gLz T n (gLd T n f k) (p, q))) := by
  have h4 := h.1.2.2.1
  have hp : p ≤ n := h.1.le
  refine Rn.step (pc' := 36) rfl rfl ?_
  refine Rn.ifc_eq (pc1 := 66) (pc2 := 39) rfl rfl rfl (fun h36 => absurd h36 (fun z => absurd z (by decide))) (fun h36 => ?_)
  refine Rn.step (pc' := 40) rfl rfl ?_
  refine Rn.vi (pc' := 43) rfl (by decide) (by omega) rfl rfl rfl (x_see h.1) ?_
  refine Rn.iconst (v := 59) (pc' := 45) rfl (by decide) rfl ?_
  refine Rn.icmp_ne (pc1 := 66) (pc2 := 48) rfl rfl rfl (fun h45 => ?_) (fun h45 => ?_)
  · have hsg : ¬ sgE T n p 59 := fun z => h45 ((cu_sg (by decide) (by decide) (by decide) (by decide) (by decide) (by decide) (by decide)).mpr z)
    refine Rn.step (pc' := 67) rfl rfl ?_
    refine Rn.ifc_eq (pc1 := 88) (pc2 := 70) rfl rfl rfl (fun h67 => absurd h67 (fun z => absurd z (by decide))) (fun h67 => ?_)
    refine Rn.step (pc' := 71) rfl rfl ?_
    refine Rn.vi (pc' := 74) rfl (by decide) (by omega) rfl rfl rfl (x_see h.1.here) ?_
    rw [updO]
    refine Rn.iconst (v := (-1)) (pc' := 75) rfl (by decide) rfl ?_
    refine Rn.icmp_eq (pc1 := 88) (pc2 := 78) rfl rfl rfl (fun h75 => ?_) (fun h75 => ?_)
    · rw [show gLz T n (gLd T n f k) (p, q) = .inr (p, q) from (if_neg hsg).trans (if_pos (cu_end.mp h75))]
      refine Rn.step (pc' := 89) rfl rfl ?_
      refine Rn.iconst (v := 0) (pc' := 90) rfl (by decide) rfl ?_
      refine Rn.mput (pc' := 93) rfl rfl rfl rfl (by decide) rfl ?_
      refine Rn.step (pc' := 94) rfl rfl ?_
      refine Rn.getf (pc' := 97) rfl rfl rfl rfl rfl ?_
      refine Rn.ifc_ne (pc1 := 104) (pc2 := 100) rfl rfl rfl (fun h97 => absurd h97 (fun z => z (by exact h.2.1))) (fun h97 => ?_)
      refine Rn.iconst (v := 1) (pc' := 101) rfl (by decide) rfl ?_
      refine Rn.step (pc' := 105) rfl rfl ?_
      exact Rn.iret rfl (rfl) (⟨_, _, rfl, ((xFM.rfl v A).vv (by omega)).vv (by omega), rfl, rfl, h.2.2⟩)
    · rw [show gLz T n (gLd T n f k) (p, q) = .inl (1 + 8 * p + 0) from (if_neg hsg).trans (if_neg (fun z => h75 (cu_end.mpr z)))]
      refine Rn.step (pc' := 79) rfl rfl ?_
      refine Rn.iconst (v := 0) (pc' := 80) rfl (by decide) rfl ?_
      refine Rn.step (pc' := 81) rfl rfl ?_
      refine Rn.getf (pc' := 84) rfl rfl rfl rfl rfl ?_
      refine Rn.vi (pc' := 87) rfl (by decide) (by omega) rfl rfl rfl (x_M_fails (k := 0) (p := p) (by exact h.2.1)) ?_
      refine Rn.step (pc' := 88) rfl rfl ?_
      skip
      refine Rn.step (pc' := 89) rfl rfl ?_
      refine Rn.iconst (v := 0) (pc' := 90) rfl (by decide) rfl ?_
      refine Rn.mput (pc' := 93) rfl rfl rfl rfl (by decide) rfl ?_
      refine Rn.step (pc' := 94) rfl rfl ?_
      refine Rn.getf (pc' := 97) rfl rfl rfl rfl rfl ?_
      refine Rn.ifc_ne (pc1 := 104) (pc2 := 100) rfl rfl rfl (fun h97 => ?_) (fun h97 => absurd h97 (fun z => absurd ((nI_eq (a := 1 + 8 * p + 0) (b := 0) (by omega) (by omega)).mp z) (by omega)))
      refine Rn.iconst (v := 0) (pc' := 105) rfl (by decide) rfl ?_
      exact Rn.iret rfl (rfl) (⟨_, _, rfl, (((xFM.rfl v A).vv (by omega)).vv (by omega)).vv (by omega), rfl, rfl, rfl, by omega⟩)
  · have hsg : sgE T n p 59 := (cu_sg (by decide) (by decide) (by decide) (by decide) (by decide) (by decide) (by decide)).mp h45
    obtain ⟨hq1, hq2, hq3⟩ := sg_tk (T := T) (n := n) (p := p) (c := 59) h.1.2.2.2.1 (by decide) (by decide) (by decide) (by decide) (by decide) (by decide) h45 (by decide)
    rw [show gLz T n (gLd T n f k) (p, q) = gLd T n f k (nxE T n p, q) from if_pos hsg]
    refine Rn.step (pc' := 49) rfl rfl ?_
    refine Rn.step (pc' := 50) rfl rfl ?_
    refine Rn.getf (pc' := 53) rfl rfl rfl rfl rfl ?_
    refine Rn.iconst (v := 1) (pc' := 54) rfl (by decide) rfl ?_
    refine Rn.iadd (pc' := 55) rfl rfl ?_
    refine Rn.mput (pc' := 58) rfl rfl rfl rfl (by decide) rfl ?_
    rw [updO, show upd v 8 (nI p) 8 + 1 = nI (p + 1) from nI_add _ 1]
    have hR2 : RL (upd v 8 (nI (p + 1))) A T n (nxE T n p, q) := ⟨h.1.at (by omega) (by show skE T n (p + 1) = skE T n (tkE T n p); rw [hq3]), h.2⟩
    refine Rn.step (pc' := 59) rfl rfl ?_
    refine Rn.callV (pc' := 62) rfl (by decide) (by omega) rfl rfl rfl (x_clauseL (k := k) (by omega) hR2 h11 h14 hk40 hv) (fun r_ m_ hc_ => ?_)
    obtain ⟨v1, A1, rfl, hF1, hg⟩ := hc_
    obtain ⟨f1, rfl⟩ : ∃ f1, f = f1 + 1 := ⟨f - 1, by omega⟩
    rw [show gLd T n (f1 + 1) k (nxE T n p, q) = gBx (gLc T n k (nxE T n p, q)) (gLz T n (gLd T n f1 (k + 1))) from rfl]
    cases hX : gLc T n k (nxE T n p, q) with
    | inl e =>
      rw [hX] at hg
      obtain ⟨rfl, h9⟩ := hg
      refine Rn.step (pc' := 63) rfl rfl ?_
      refine Rn.step (pc' := 35) rfl rfl ?_
      exact Rn.conseq (l_Y_bad h9) (fun r_ m_ hg => hg.mono (((xFM.rfl v A).vv (by omega)).trans hF1))
    | inr z =>
      rw [hX] at hg
      obtain ⟨rfl, g1, g2, g3⟩ := hg
      obtain ⟨P', B', E', W', hv3, hp3, hz3, hk3⟩ := gLc_v (s := (nxE T n p, q)) hv hX
      refine Rn.step (pc' := 63) rfl rfl ?_
      refine Rn.step (pc' := 35) rfl rfl ?_
      exact Rn.conseq (l_Y_rd hd f1 (k + 1) v1 A1 z.1 z.2 P' B' E' W' g1 g3 g2 (by omega) (by omega) hv3) (fun r_ m_ hg => hg.mono (((xFM.rfl v A).vv (by omega)).trans hF1))
termination_by f
theorem x_readsLane {d : Nat} (hd : 6 ≤ d) (h51 : A 51 = T) (h1 : v 1 = nI n) (h4 : n ≤ 400) (hT : ∀ i, -128 ≤ T i ∧ T i ≤ 127) (h11 : v 11 = 6) (h56 : A 56 = q) (hq : iniQ q) : Cl d j_M_readsAll [.ref 50] (MM m0 v dx A LA) (gVP m0 v dx A LA (gLd T n 41 0 (skE T n 0, q))) := by
  show Rn d j_M_readsAll 0 _ _ _ _
  refine Rn.step (pc' := 1) rfl rfl ?_
  refine Rn.getf (pc' := 4) rfl rfl rfl rfl rfl ?_
  refine Rn.step (pc' := 5) rfl rfl ?_
  refine Rn.getf (pc' := 8) rfl rfl rfl rfl rfl ?_
  refine Rn.iconst (v := 0) (pc' := 9) rfl (by decide) rfl ?_
  refine Rn.mast (k := 6) (pc' := 10) rfl rfl (by exact h11) (by omega) (by decide) rfl ?_
  refine Rn.step (pc' := 11) rfl rfl ?_
  refine Rn.iconst (v := 0) (pc' := 12) rfl (by decide) rfl ?_
  refine Rn.mput (pc' := 15) rfl rfl rfl rfl (by decide) rfl ?_
  refine Rn.step (pc' := 16) rfl rfl ?_
  refine Rn.iconst (v := 0) (pc' := 17) rfl (by decide) rfl ?_
  refine Rn.mput (pc' := 20) rfl rfl rfl rfl (by decide) rfl ?_
  refine Rn.step (pc' := 21) rfl rfl ?_
  refine Rn.iconst (v := 0) (pc' := 22) rfl (by decide) rfl ?_
  refine Rn.mput (pc' := 25) rfl rfl rfl rfl (by decide) rfl ?_
  refine Rn.step (pc' := 26) rfl rfl ?_
  refine Rn.iconst (v := 0) (pc' := 27) rfl (by decide) rfl ?_
  refine Rn.mput (pc' := 30) rfl rfl rfl rfl (by decide) rfl ?_
  have hR : RL (upd (upd (upd (upd v 14 0) 8 0) 9 0) 12 0) (va_up A 53 (upd (A 53) 6 0)) T n (skE T n 0, q) := ⟨⟨h51, h1, h4, hT, 0, rfl, Nat.zero_le _, rfl⟩, rfl, h56⟩
  have hF00 : xFM v A v (va_up A 53 (upd (A 53) 6 0)) := ⟨fun _ _ _ _ _ _ _ => rfl, fun k b _ => up_ne _ _ b, fun k hk => if_neg hk⟩
  have hF0 : xFM v A (upd (upd (upd (upd v 14 0) 8 0) 9 0) 12 0) (va_up A 53 (upd (A 53) 6 0)) := (((hF00.vv (by omega)).vv (by omega)).vv (by omega)).vv (by omega)
  refine Rn.step (pc' := 31) rfl rfl ?_
  refine Rn.callV (pc' := 34) rfl (by decide) (by omega) rfl rfl rfl (x_clauseL (k := 0) (by omega) hR (by exact h11) rfl (by omega) hq.lv) (fun r_ m_ hc_ => ?_)
  obtain ⟨v1, A1, rfl, hF1, hg⟩ := hc_
  rw [show gLd T n 41 0 (skE T n 0, q) = gBx (gLc T n 0 (skE T n 0, q)) (gLz T n (gLd T n 40 1)) from rfl]
  cases hX : gLc T n 0 (skE T n 0, q) with
  | inl e =>
    rw [hX] at hg
    obtain ⟨rfl, h9⟩ := hg
    refine Rn.step (pc' := 35) rfl rfl ?_
    exact Rn.conseq (l_Y_bad h9) (fun r_ m_ hg => hg.mono (hF0.trans hF1))
  | inr z =>
    rw [hX] at hg
    obtain ⟨rfl, g1, g2, g3⟩ := hg
    obtain ⟨P', B', E', W', hv3, hp3, hz3, hk3⟩ := gLc_v (s := (skE T n 0, q)) hq.lv hX
    refine Rn.step (pc' := 35) rfl rfl ?_
    exact Rn.conseq (l_Y_rd hd 40 1 v1 A1 z.1 z.2 P' B' E' W' g1 g3 g2 (by omega) (by omega) hv3) (fun r_ m_ hg => hg.mono (hF0.trans hF1))
end W1
end NM2
