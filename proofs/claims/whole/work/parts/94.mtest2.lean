/-! THE MODEL: its reader: closes, tested. -/
section NA2
variable {m0 : xM} {v : Nat → Int32} {dx : Int64} {A : Nat → Nat → Int32} {LA : Nat → Nat → Int64} {s : Nat → Int32}
section T9
variable {T : Nat → Int32} {n r : Nat} {t : gS} {q : List Nat}
abbrev cOK (m0 : xM) (v : Nat → Int32) (dx : Int64) (A : Nat → Nat → Int32) (LA : Nat → Nat → Int64) (T : Nat → Int32) (n r : Nat) (t : gS) (q : List Nat) (o : Option Value) (m2 : xM) : Prop := o = none ∧ ∃ v1 A1 q' t', m2 = MM m0 v1 dx A1 LA ∧ xFB v A v1 A1 r ∧ cnt T n q t = cnt T n q' t' ∧ RM v1 A1 T n r t' ∧ SK v1 A1 q' ∧ wfS q' ∧ top11 q' ∧ ¬ (sgE T n t'.1 93 ∧ 91 ∈ q') ∧ q'.length + t'.2.2.length ≤ t'.1 ∧ t.1 ≤ t'.1
theorem sg_w {p : Nat} {c : Int32} (hT : ∀ i, -128 ≤ T i ∧ T i ≤ 127) (h : sgE T n p c) : ¬ wix T p (leE T n p) ws5 0 = 0 ∧ ¬ wix T p (leE T n p) ws5 0 = 1 := by
  have k : ¬ kdE T n p = 1 := by rw [h.1]; decide
  rw [kd_le hT k, wix_e ws5 0 (by decide)]
  exact ⟨by decide, by decide⟩
theorem l_X_closes {d : Nat} (hd : 2 ≤ d) : ∀ (f : Nat) (v : Nat → Int32) (A : Nat → Nat → Int32) (t : gS) (q : List Nat), RM v A T n r t → SK v A q → wfS q → top11 q → n - t.1 < f → q.length + t.2.2.length ≤ t.1 → Rn d j_M_closes 5 [.ref 50] [] (MM m0 v dx A LA) (cOK m0 v dx A LA T n r t q)
  | 0, _, _, _, _, _, _, _, _, h, _ => absurd h (Nat.not_lt_zero _)
  | f + 1, v, A, t, q, h, hs, hq, ht, hf, hl => by
    have h4 := h.1.2.2.1
    have hp := h.1.le
    refine Rn.step (pc' := 6) rfl rfl ?_
    refine Rn.vi (pc' := 9) rfl (by decide) (by omega) rfl rfl rfl (x_see h.1) ?_
    refine Rn.iconst (v := 93) (pc' := 11) rfl (by decide) rfl ?_
    refine Rn.icmp_ne (pc1 := 64) (pc2 := 14) rfl rfl rfl (fun h11 => ?_) (fun h11 => ?_)
    · exact Rn.vret rfl (⟨rfl, _, _, q, t, rfl, (xFB.rfl v A r).vv (by omega), rfl, h.here, hs.vv (by omega), hq, ht, fun z => h11 ((cu_sg (by decide) (by decide) (by decide) (by decide) (by decide) (by decide) (by decide)).mpr z.1), hl, Nat.le_refl _⟩)
    · refine Rn.step (pc' := 15) rfl rfl ?_
      refine Rn.vi (pc' := 18) rfl (by decide) (by omega) rfl rfl rfl (x_inside hq (hs.vv (by omega)) (by omega)) ?_
      refine Rn.ifp_eq (pc1 := 64) (pc2 := 21) rfl rfl rfl (fun h18 => ?_) (fun h18 => ?_)
      · exact Rn.vret rfl (⟨rfl, _, _, q, t, rfl, (xFB.rfl v A r).vv (by omega), rfl, h.here, hs.vv (by omega), hq, ht, fun z => h18 z.2, hl, Nat.le_refl _⟩)
      · refine Rn.step (pc' := 22) rfl rfl ?_
        refine Rn.iconst (v := 1) (pc' := 23) rfl (by decide) rfl ?_
        refine Rn.callV (pc' := 26) rfl (by decide) (by omega) rfl rfl rfl (x_settles (k := 1) (by omega) (by omega) hq h.here (hs.vv (by omega)) (by omega)) (fun r_ m_ hc_ => ?_)
        obtain ⟨rfl, v1, A1, rfl, hF1, h81, hR1, hS1⟩ := hc_
        have hsg : sgE T n t.1 93 := (cu_sg (by decide) (by decide) (by decide) (by decide) (by decide) (by decide) (by decide)).mp h11
        obtain ⟨hq1, hq2, hq3⟩ := sg_tk (T := T) (n := n) (p := t.1) (c := 93) h.1.2.2.2.1 (by decide) (by decide) (by decide) (by decide) (by decide) (by decide) h11 (by decide)
        obtain ⟨g1, g2, g3⟩ := mS_1 q t hq (sg_w h.1.2.2.2.1 hsg).1 (sg_w h.1.2.2.2.1 hsg).2
        obtain ⟨p1, p2, p3, _⟩ := mS_p (T := T) (n := n) 1 q t
        obtain ⟨u, hu⟩ : ∃ u, (mS 1 q t).1 = 91 :: u := by
          rcases g1 with e | e
          · exact absurd e (g3.mp h18)
          · exact e
        have hwf := mS_wf 1 q t hq
        generalize (mS 1 q t).2 = t1 at *
        rw [hu] at g2 hS1 p3 hwf
        have hlen : (91 :: u).length = u.length + 1 := rfl
        have hdp : dpS (91 :: u) = dpS u + 1 := rfl
        have hd10 := hS1.2.2.1
        have e16 : v1 16 - 1 = nI u.length := by rw [hS1.1]; exact nI_subw (a := u.length + 1) (b := 1) (by omega)
        have e13 : v1 13 - 1 = nI (dpS u) := by rw [hS1.2.1]; exact nI_subw (a := dpS u + 1) (b := 1) (by omega)
        have e8 : v1 8 = nI t.1 := h81
        have hcq : cnt T n q t = cnt T n u (gAd T n t1) := g2.trans (if_pos (by rw [p1]; exact hsg))
        have hx : t.1 < nxE T n t.1 := by
          have : t.1 + 1 ≤ skE T n (tkE T n t.1) := by rw [hq3]; exact rnE_ge
          exact this
        have hnn : nxE T n t.1 ≤ n := nx_le hp
        refine Rn.step (pc' := 27) rfl rfl ?_
        refine Rn.step (pc' := 28) rfl rfl ?_
        refine Rn.getf (pc' := 31) rfl rfl rfl rfl rfl ?_
        refine Rn.iconst (v := 1) (pc' := 32) rfl (by decide) rfl ?_
        refine Rn.isub (pc' := 33) rfl rfl ?_
        rw [e16]
        refine Rn.mput (pc' := 36) rfl rfl rfl rfl (by decide) rfl ?_
        refine Rn.step (pc' := 37) rfl rfl ?_
        refine Rn.step (pc' := 38) rfl rfl ?_
        refine Rn.getf (pc' := 41) rfl rfl rfl rfl rfl ?_
        refine Rn.iconst (v := 1) (pc' := 42) rfl (by decide) rfl ?_
        refine Rn.isub (pc' := 43) rfl rfl ?_
        rw [show upd v1 16 (nI u.length) 13 - 1 = nI (dpS u) from e13]
        refine Rn.mput (pc' := 46) rfl rfl rfl rfl (by decide) rfl ?_
        refine Rn.step (pc' := 47) rfl rfl ?_
        refine Rn.step (pc' := 48) rfl rfl ?_
        refine Rn.getf (pc' := 51) rfl rfl rfl rfl rfl ?_
        refine Rn.iconst (v := 1) (pc' := 52) rfl (by decide) rfl ?_
        refine Rn.iadd (pc' := 53) rfl rfl ?_
        rw [show upd (upd v1 16 (nI u.length)) 13 (nI (dpS u)) 8 + 1 = nI (t.1 + 1) by show v1 8 + 1 = _; rw [e8, nI_lit, nI_add]]
        refine Rn.mput (pc' := 56) rfl rfl rfl rfl (by decide) rfl ?_
        have hR3 : RM (upd (upd (upd v1 16 (nI u.length)) 13 (nI (dpS u))) 8 (nI (t.1 + 1))) A1 T n r (gAd T n t1) := (RM.vv (RM.vv hR1 (by omega)) (by omega)).at (by omega) (by show skE T n (t.1 + 1) = skE T n (tkE T n t1.1); rw [p1, hq3])
        have hS3 : SK (upd (upd (upd v1 16 (nI u.length)) 13 (nI (dpS u))) 8 (nI (t.1 + 1))) A1 u := ⟨rfl, rfl, by omega, hS1.2.2.2.2⟩
        refine Rn.step (pc' := 57) rfl rfl ?_
        refine Rn.iconst (v := 3) (pc' := 58) rfl (by decide) rfl ?_
        refine Rn.callV (pc' := 61) rfl (by decide) (by omega) rfl rfl rfl (x_settles (k := 3) (by omega) (by omega) hwf.1 hR3 hS3 (by show u.length + t1.2.2.length ≤ 400; omega)) (fun r_ m_ hc_ => ?_)
        obtain ⟨rfl, v2, A2, rfl, hF2, h82, hR2, hS2⟩ := hc_
        obtain ⟨k1, k2, k3⟩ := mS_3 (T := T) (n := n) u (gAd T n t1) hwf.1
        obtain ⟨r1, r2, r3, _⟩ := mS_p (T := T) (n := n) 3 u (gAd T n t1)
        have hwf2 := mS_wf 3 u (gAd T n t1) hwf.1
        refine Rn.step (pc' := 5) rfl rfl ?_
        refine Rn.conseq (l_X_closes hd f _ _ _ _ hR2 hS2 hwf2 k2 (by rw [r1]; show n - nxE T n t1.1 < f; rw [p1]; omega) (by rw [r3, r1]; show u.length + t1.2.2.length ≤ nxE T n t1.1; rw [p1]; omega)) ?_
        rintro o m2 ⟨e1, v3, A3, q', t', e2, e3, e4, e5, e6, e7, e9, e10, e11, e12⟩
        exact ⟨e1, v3, A3, q', t', e2, ((((((xFB.rfl v A r).vv (by omega)).trans hF1).vv (by omega)).vv (by omega)).vv (by omega)).trans (hF2.trans e3), hcq.trans (k1.trans e4), e5, e6, e7, e9, e10, e11, by rw [r1] at e12; have : nxE T n t1.1 ≤ t'.1 := e12; rw [p1] at this; omega⟩
theorem x_closes {d : Nat} (hd : 2 ≤ d) (h : RM v A T n r t) (hs : SK v A q) (hq : wfS q) (hl : q.length + t.2.2.length ≤ t.1) : Cl d j_M_closes [.ref 50] (MM m0 v dx A LA) (cOK m0 v dx A LA T n r t q) := by
  have h4 := h.1.2.2.1
  have hp := h.1.le
  show Rn d j_M_closes 0 _ _ _ _
  refine Rn.step (pc' := 1) rfl rfl ?_
  refine Rn.iconst (v := 3) (pc' := 2) rfl (by decide) rfl ?_
  refine Rn.callV (pc' := 5) rfl (by decide) (by omega) rfl rfl rfl (x_settles (k := 3) (by omega) (by omega) hq h hs (by omega)) (fun r_ m_ hc_ => ?_)
  obtain ⟨rfl, v2, A2, rfl, hF2, h82, hR2, hS2⟩ := hc_
  obtain ⟨k1, k2, k3⟩ := mS_3 (T := T) (n := n) q t hq
  obtain ⟨r1, r2, r3, _⟩ := mS_p (T := T) (n := n) 3 q t
  have hwf2 := mS_wf 3 q t hq
  refine Rn.conseq (l_X_closes hd (n + 1) _ _ _ _ hR2 hS2 hwf2 k2 (by omega) (by omega)) ?_
  rintro o m2 ⟨e1, v3, A3, q', t', e2, e3, e4, e5, e6, e7, e9, e10, e11, e12⟩
  exact ⟨e1, v3, A3, q', t', e2, hF2.trans e3, k1.trans e4, e5, e6, e7, e9, e10, e11, by omega⟩
def gN (m0 : xM) (v : Nat → Int32) (dx : Int64) (A : Nat → Nat → Int32) (LA : Nat → Nat → Int64) (T : Nat → Int32) (n r : Nat) (x : gR) (o : Option Value) (m2 : xM) : Prop := ∃ v1 A1, m2 = MM m0 v1 dx A1 LA ∧ xFB v A v1 A1 r ∧ gMK v1 A1 T n r o x
theorem gN.mono {v1 : Nat → Int32} {A1 : Nat → Nat → Int32} {x : gR} {o : Option Value} {m2 : xM} (h : gN m0 v1 dx A1 LA T n r x o m2) (hc : xFB v A v1 A1 r) : gN m0 v dx A LA T n r x o m2 := by
  obtain ⟨v2, A2, e, c, g⟩ := h
  exact ⟨v2, A2, e, hc.trans c, g⟩
theorem SK.pushw {c : Nat} (hs : SK v A q) (hc : c = 12 ∨ c = 13) : SK (upd v 16 (nI (q.length + 1))) (va_up A 57 (upd (A 57) q.length (nI c))) (c :: q) := by
  have e : dpS (c :: q) = dpS q := by
    show dpS q + (if c = 11 ∨ c = 91 then 1 else 0) = _
    rw [if_neg (by omega)]
    rfl
  exact ⟨rfl, by rw [e]; exact hs.2.1, by rw [e]; exact hs.2.2.1, if_pos rfl, skA_up q _ (Nat.le_refl _) hs.2.2.2⟩
theorem l_X_tested {d : Nat} (hd : 8 ≤ d) : ∀ (f : Nat) (v : Nat → Int32) (A : Nat → Nat → Int32) (t : gS) (q : List Nat) (x : Value), RM v A T n r t → SK v A q → wfS q → n - t.1 < f → q.length + t.2.2.length ≤ t.1 → Rn d j_M_tested 12 [.ref 50, .int 1, x] [] (MM m0 v dx A LA) (gN m0 v dx A LA T n r (gBd (gFa T n (10 - dpS q) t) (cnt T n q)))
  | 0, _, _, _, _, _, _, _, _, h, _ => absurd h (Nat.not_lt_zero _)
  | f + 1, v, A, t, q, x, h, hs, hq, hf, hl => by
    have h4 := h.1.2.2.1
    have hp := h.1.le
    refine Rn.step (pc' := 13) rfl rfl ?_
    refine Rn.ifc_eq (pc1 := 112) (pc2 := 16) rfl rfl rfl (fun h13 => absurd h13 (fun z => absurd z (by decide))) (fun h13 => ?_)
    refine Rn.step (pc' := 17) rfl rfl ?_
    refine Rn.callV (pc' := 20) rfl (by decide) (by omega) rfl rfl rfl (x_fact (by omega) h hs hq hl) (fun r_ m_ hc_ => ?_)
    obtain ⟨v1, A1, rfl, hF1, hc1⟩ := hc_
    rcases hc1 with ⟨e, he, rfl, h9⟩ | ⟨q1, t1, hX, rfl, hR1, hS1, hw1, hl1, hlt⟩
    · refine Rn.ifc_ne (pc1 := 25) (pc2 := 23) rfl rfl rfl (fun h36 => absurd rfl h36) (fun h36 => ?_)
      refine Rn.iconst (v := 0) (pc' := 24) rfl (by decide) rfl ?_
      refine Rn.iret rfl rfl ?_
      rw [he]
      exact ⟨_, _, rfl, hF1, rfl, h9⟩
    rw [hX]
    refine Rn.ifc_ne (pc1 := 25) (pc2 := 23) rfl rfl rfl (fun h20 => ?_) (fun h20 => absurd h20 (fun z => absurd z (by decide)))
    refine Rn.step (pc' := 26) rfl rfl ?_
    refine Rn.callV (pc' := 29) rfl (by decide) (by omega) rfl rfl rfl (x_closes (by omega) hR1 hS1 hw1 hl1) (fun r_ m_ hc_ => ?_)
    obtain ⟨rfl, v2, A2, q2, t2, rfl, hF2, f2, f3, f4, f5, f6, f7, f8, f9⟩ := hc_
    have hp2 := f3.1.le
    rw [f2]
    have h2a : RM (upd v2 8 (nI t2.1)) A2 T n r t2 := f3.here
    have hSa : SK (upd v2 8 (nI t2.1)) A2 q2 := f4.vv (by omega)
    refine Rn.step (pc' := 30) rfl rfl ?_
    refine Rn.ldc2 (v := 6385252) (pc' := 33) rfl (by decide) rfl ?_
    refine Rn.vi (pc' := 36) rfl (by decide) (by omega) rfl rfl rfl (x_isWord (x := [97, 110, 100]) (by omega) f3.1 (by decide) (by decide)) ?_
    refine Rn.ifp_ne (pc1 := 49) (pc2 := 39) rfl rfl rfl (fun h36 => ?_) (fun h36 => ?_)
    · refine Rn.iconst (v := 1) (pc' := 50) rfl (by decide) rfl ?_
      refine Rn.step (pc' := 54) rfl rfl ?_
      refine Rn.step (pc' := 55) rfl rfl ?_
      refine Rn.step (pc' := 56) rfl rfl ?_
      refine Rn.ifc_eq (pc1 := 12) (pc2 := 59) rfl rfl rfl (fun h56 => absurd h56 (fun z => absurd z (by decide))) (fun h56 => ?_)
      have hwx : wix T t2.1 (leE T n t2.1) ws5 0 = 0 := and_w.mp h36
      have hkd := wd_kd h.1.2.2.2.1 (by decide) h36
      have hx := nx_gt h.1.2.2.2.1 hp2 (show ¬ kdE T n t2.1 = 0 by rw [hkd.1]; decide)
      have hnn : nxE T n t2.1 ≤ n := nx_le hp2
      refine Rn.step (pc' := 60) rfl rfl ?_
      refine Rn.ldc2 (v := 6385252) (pc' := 63) rfl (by decide) rfl ?_
      refine Rn.vi (pc' := 66) rfl (by decide) (by omega) rfl rfl rfl (x_isWord (x := [97, 110, 100]) (by omega) h2a.1 (by decide) (by decide)) ?_
      rw [updO]
      refine Rn.ifp_eq (pc1 := 74) (pc2 := 69) rfl rfl rfl (fun h66 => absurd h66 (fun z => z h36)) (fun h66 => ?_)
      refine Rn.iconst (v := 12) (pc' := 71) rfl (by decide) rfl ?_
      refine Rn.step (pc' := 76) rfl rfl ?_
      refine Rn.step (pc' := 77) rfl rfl ?_
      refine Rn.step (pc' := 78) rfl rfl ?_
      refine Rn.vv (pc' := 81) rfl (by decide) (by omega) rfl rfl rfl (x_M_pass (n := n) (i := t2.1) (by exact f3.1.2.1) h4 (by omega) rfl hp2) ?_
      rw [f3.1.1]
      have hRa : RM (upd (upd v2 8 (nI t2.1)) 8 (nI (leE T n t2.1))) A2 T n r (gAd T n t2) := h2a.at (by exact rnE_le hp2) (by show skE T n (leE T n t2.1) = skE T n (tkE T n t2.1); rw [hkd.2])
      refine Rn.step (pc' := 82) rfl rfl ?_
      refine Rn.step (pc' := 83) rfl rfl ?_
      refine Rn.si (pc' := 86) rfl (by decide) (by omega) rfl rfl (x_strength (x := 12) (by omega)) ?_
      refine Rn.callV (pc' := 89) rfl (by decide) (by omega) rfl rfl rfl (by exact x_settles (k := 2) (q := q2) (by omega) (by omega) f5 hRa (hSa.vv (by omega)) (by show q2.length + t2.2.2.length ≤ 400; omega)) (fun r_ m_ hc_ => ?_)
      obtain ⟨rfl, v3, A3, rfl, hF3, h83, hR3, hS3⟩ := hc_
      obtain ⟨z1, z2⟩ := mS_and h.1.2.2.2.1 q2 t2 f5 f6 hp2 hwx
      obtain ⟨p1, p2, p3, p4⟩ := mS_p (T := T) (n := n) 2 q2 t2
      rw [p4] at hR3 hS3
      generalize (mS 2 q2 t2).1 = q3 at *
      generalize (mS 2 q2 t2).2 = t3 at *
      refine Rn.step (pc' := 90) rfl rfl ?_
      refine Rn.getf (pc' := 93) rfl rfl rfl rfl rfl ?_
      refine Rn.step (pc' := 94) rfl rfl ?_
      refine Rn.getf (pc' := 97) rfl rfl rfl rfl rfl ?_
      refine Rn.step (pc' := 98) rfl rfl ?_
      refine Rn.mast (k := q3.length) (pc' := 99) rfl rfl (by exact hS3.1) (by omega) (by decide) rfl ?_
      refine Rn.step (pc' := 100) rfl rfl ?_
      refine Rn.step (pc' := 101) rfl rfl ?_
      refine Rn.getf (pc' := 104) rfl rfl rfl rfl rfl ?_
      refine Rn.iconst (v := 1) (pc' := 105) rfl (by decide) rfl ?_
      refine Rn.iadd (pc' := 106) rfl rfl ?_
      rw [show v3 16 + 1 = nI (q3.length + 1) by rw [hS3.1, nI_lit, nI_add]]
      refine Rn.mput (pc' := 109) rfl rfl rfl rfl (by decide) rfl ?_
      refine Rn.step (pc' := 12) rfl rfl ?_
      rw [z2]
      refine Rn.conseq (l_X_tested hd f _ _ (gAd T n t3) (12 :: q3) _ (RM.vv (k := 16) hR3 (by omega)) (SK.pushw (c := 12) hS3 (Or.inl rfl)) z1 (by show n - nxE T n t3.1 < f; rw [p1]; omega) (by show q3.length + 1 + t3.2.2.length ≤ nxE T n t3.1; rw [p1]; omega)) ?_
      intro o m2 hg
      exact hg.mono ((((((hF1.trans hF2).vv (by omega)).vv (by omega)).trans hF3).a).vv (by omega))
    · refine Rn.step (pc' := 40) rfl rfl ?_
      refine Rn.ldc2 (v := 28530) (pc' := 43) rfl (by decide) rfl ?_
      refine Rn.vi (pc' := 46) rfl (by decide) (by omega) rfl rfl rfl (x_isWord (x := [111, 114]) (by omega) h2a.1 (by decide) (by decide)) ?_
      rw [updO]
      refine Rn.ifp_eq (pc1 := 53) (pc2 := 49) rfl rfl rfl (fun h46 => ?_) (fun h46 => ?_)
      · refine Rn.iconst (v := 0) (pc' := 54) rfl (by decide) rfl ?_
        refine Rn.step (pc' := 55) rfl rfl ?_
        refine Rn.step (pc' := 56) rfl rfl ?_
        refine Rn.ifc_eq (pc1 := 12) (pc2 := 59) rfl rfl rfl (fun h56 => ?_) (fun h56 => absurd (rfl) h56)
        refine Rn.step (pc' := 13) rfl rfl ?_
        refine Rn.ifc_eq (pc1 := 112) (pc2 := 16) rfl rfl rfl (fun h13 => ?_) (fun h13 => absurd (rfl) h13)
        have n0 : ¬ wix T t2.1 (leE T n t2.1) ws5 0 = 0 := fun z => h36 (and_w.mpr z)
        have n1 : ¬ wix T t2.1 (leE T n t2.1) ws5 0 = 1 := fun z => h46 ((or_w h36).mpr z)
        obtain ⟨g1, g2, g3⟩ := mS_1 q2 t2 f5 n0 n1
        obtain ⟨p1, p2, p3, p4⟩ := mS_p (T := T) (n := n) 1 q2 t2
        refine Rn.step (pc' := 113) rfl rfl ?_
        refine Rn.vi (pc' := 116) rfl (by decide) (by omega) rfl rfl rfl (x_inside f5 hSa (by omega)) ?_
        refine Rn.ifp_eq (pc1 := 134) (pc2 := 119) rfl rfl rfl (fun h116 => ?_) (fun h116 => ?_)
        · refine Rn.step (pc' := 135) rfl rfl ?_
          refine Rn.iconst (v := 1) (pc' := 136) rfl (by decide) rfl ?_
          refine Rn.callV (pc' := 139) rfl (by decide) (by omega) rfl rfl rfl (x_settles (k := 1) (q := q2) (by omega) (by omega) f5 h2a hSa (by omega)) (fun r_ m_ hc_ => ?_)
          obtain ⟨rfl, v3, A3, rfl, hF3, h83, hR3, hS3⟩ := hc_
          have he : (mS 1 q2 t2).1 = [] := Classical.byContradiction (fun z => h116 (g3.mpr z))
          rw [g2, he]
          refine Rn.iconst (v := 1) (pc' := 140) rfl (by decide) rfl ?_
          exact Rn.iret rfl (rfl) (⟨_, _, rfl, ((hF1.trans hF2).vv (by omega)).trans hF3, rfl, hR3⟩)
        · refine Rn.step (pc' := 120) rfl rfl ?_
          refine Rn.vi (pc' := 123) rfl (by decide) (by omega) rfl rfl rfl (x_see h2a.1) ?_
          refine Rn.step (pc' := 124) rfl rfl ?_
          rw [updO]
          obtain ⟨u, hu⟩ : ∃ u, (mS 1 q2 t2).1 = 91 :: u := by
            rcases g1 with e | e
            · exact absurd e (g3.mp h116)
            · exact e
          rw [g2, hu, show aft T n (91 :: u) (mS 1 q2 t2).2 = gFl (mS 1 q2 t2).2 0 from if_neg (by rw [p1]; exact fun z => f7 ⟨z, h116⟩)]
          refine Rn.step (pc' := 125) rfl rfl ?_
          refine Rn.iconst (v := 0) (pc' := 126) rfl (by decide) rfl ?_
          refine Rn.step (pc' := 127) rfl rfl ?_
          refine Rn.getf (pc' := 130) rfl rfl rfl rfl rfl ?_
          refine Rn.vi (pc' := 133) rfl (by decide) (by omega) rfl rfl rfl (x_M_fails (k := 0) (p := t2.1) (by exact f3.2.1)) ?_
          exact Rn.iret rfl (rfl) (⟨_, _, rfl, ((hF1.trans hF2).vv (by omega)).vv (by omega), rfl, by show nI (1 + 8 * t2.1 + 0) = nI (1 + 8 * (mS 1 q2 t2).2.1 + 0); rw [p1], by rw [p1]; omega⟩)
      · refine Rn.iconst (v := 1) (pc' := 50) rfl (by decide) rfl ?_
        refine Rn.step (pc' := 54) rfl rfl ?_
        refine Rn.step (pc' := 55) rfl rfl ?_
        refine Rn.step (pc' := 56) rfl rfl ?_
        refine Rn.ifc_eq (pc1 := 12) (pc2 := 59) rfl rfl rfl (fun h56 => absurd h56 (fun z => absurd z (by decide))) (fun h56 => ?_)
        have hwx : wix T t2.1 (leE T n t2.1) ws5 0 = 1 := (or_w h36).mp h46
        have hkd := wd_kd h.1.2.2.2.1 (by decide) h46
        have hx := nx_gt h.1.2.2.2.1 hp2 (show ¬ kdE T n t2.1 = 0 by rw [hkd.1]; decide)
        have hnn : nxE T n t2.1 ≤ n := nx_le hp2
        refine Rn.step (pc' := 60) rfl rfl ?_
        refine Rn.ldc2 (v := 6385252) (pc' := 63) rfl (by decide) rfl ?_
        refine Rn.vi (pc' := 66) rfl (by decide) (by omega) rfl rfl rfl (x_isWord (x := [97, 110, 100]) (by omega) h2a.1 (by decide) (by decide)) ?_
        rw [updO]
        refine Rn.ifp_eq (pc1 := 74) (pc2 := 69) rfl rfl rfl (fun h66 => ?_) (fun h66 => absurd h66 h36)
        refine Rn.iconst (v := 13) (pc' := 76) rfl (by decide) rfl ?_
        refine Rn.step (pc' := 77) rfl rfl ?_
        refine Rn.step (pc' := 78) rfl rfl ?_
        refine Rn.vv (pc' := 81) rfl (by decide) (by omega) rfl rfl rfl (x_M_pass (n := n) (i := t2.1) (by exact f3.1.2.1) h4 (by omega) rfl hp2) ?_
        rw [f3.1.1]
        have hRa : RM (upd (upd v2 8 (nI t2.1)) 8 (nI (leE T n t2.1))) A2 T n r (gAd T n t2) := h2a.at (by exact rnE_le hp2) (by show skE T n (leE T n t2.1) = skE T n (tkE T n t2.1); rw [hkd.2])
        refine Rn.step (pc' := 82) rfl rfl ?_
        refine Rn.step (pc' := 83) rfl rfl ?_
        refine Rn.si (pc' := 86) rfl (by decide) (by omega) rfl rfl (x_strength (x := 13) (by omega)) ?_
        refine Rn.callV (pc' := 89) rfl (by decide) (by omega) rfl rfl rfl (by exact x_settles (k := 1) (q := q2) (by omega) (by omega) f5 hRa (hSa.vv (by omega)) (by show q2.length + t2.2.2.length ≤ 400; omega)) (fun r_ m_ hc_ => ?_)
        obtain ⟨rfl, v3, A3, rfl, hF3, h83, hR3, hS3⟩ := hc_
        obtain ⟨z1, z2⟩ := mS_or h.1.2.2.2.1 q2 t2 f5 hp2 hwx
        obtain ⟨p1, p2, p3, p4⟩ := mS_p (T := T) (n := n) 1 q2 t2
        rw [p4] at hR3 hS3
        generalize (mS 1 q2 t2).1 = q3 at *
        generalize (mS 1 q2 t2).2 = t3 at *
        refine Rn.step (pc' := 90) rfl rfl ?_
        refine Rn.getf (pc' := 93) rfl rfl rfl rfl rfl ?_
        refine Rn.step (pc' := 94) rfl rfl ?_
        refine Rn.getf (pc' := 97) rfl rfl rfl rfl rfl ?_
        refine Rn.step (pc' := 98) rfl rfl ?_
        refine Rn.mast (k := q3.length) (pc' := 99) rfl rfl (by exact hS3.1) (by omega) (by decide) rfl ?_
        refine Rn.step (pc' := 100) rfl rfl ?_
        refine Rn.step (pc' := 101) rfl rfl ?_
        refine Rn.getf (pc' := 104) rfl rfl rfl rfl rfl ?_
        refine Rn.iconst (v := 1) (pc' := 105) rfl (by decide) rfl ?_
        refine Rn.iadd (pc' := 106) rfl rfl ?_
        rw [show v3 16 + 1 = nI (q3.length + 1) by rw [hS3.1, nI_lit, nI_add]]
        refine Rn.mput (pc' := 109) rfl rfl rfl rfl (by decide) rfl ?_
        refine Rn.step (pc' := 12) rfl rfl ?_
        rw [z2]
        refine Rn.conseq (l_X_tested hd f _ _ (gAd T n t3) (13 :: q3) _ (RM.vv (k := 16) hR3 (by omega)) (SK.pushw (c := 13) hS3 (Or.inr rfl)) z1 (by show n - nxE T n t3.1 < f; rw [p1]; omega) (by show q3.length + 1 + t3.2.2.length ≤ nxE T n t3.1; rw [p1]; omega)) ?_
        intro o m2 hg
        exact hg.mono ((((((hF1.trans hF2).vv (by omega)).vv (by omega)).trans hF3).a).vv (by omega))
theorem x_tested {d : Nat} (hd : 8 ≤ d) (h : RM v A T n r t) (hl : t.2.2.length ≤ t.1) : Cl d j_M_tested [.ref 50] (MM m0 v dx A LA) (gN m0 v dx A LA T n r (gTs T n (gFa T n 10) t)) := by
  show Rn d j_M_tested 0 _ _ _ _
  refine Rn.step (pc' := 1) rfl rfl ?_
  refine Rn.iconst (v := 0) (pc' := 2) rfl (by decide) rfl ?_
  refine Rn.mput (pc' := 5) rfl rfl rfl rfl (by decide) rfl ?_
  refine Rn.step (pc' := 6) rfl rfl ?_
  refine Rn.iconst (v := 0) (pc' := 7) rfl (by decide) rfl ?_
  refine Rn.mput (pc' := 10) rfl rfl rfl rfl (by decide) rfl ?_
  refine Rn.iconst (v := 1) (pc' := 11) rfl (by decide) rfl ?_
  refine Rn.step (pc' := 12) rfl rfl ?_
  rw [gTs_c]
  refine Rn.conseq (l_X_tested (q := []) hd (n + 1) _ _ t _ (RM.vv (RM.vv h (by omega)) (by omega)) ⟨rfl, rfl, Nat.zero_le _, trivial⟩ trivial (by omega) (by show 0 + _ ≤ _; omega)) ?_
  intro o m2 hg
  exact hg.mono (((xFB.rfl v A r).vv (by omega)).vv (by omega))
end T9
end NA2
