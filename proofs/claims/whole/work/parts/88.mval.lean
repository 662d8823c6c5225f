/-! THE MODEL: its reader: VALUES. -/
section MU2
variable {m0 : xM} {v : Nat → Int32} {dx : Int64} {A : Nat → Nat → Int32} {LA : Nat → Nat → Int64} {s : Nat → Int32}
section T3
variable {T : Nat → Int32} {n r : Nat} {t : gS}
def tkN (c : Nat × Nat) : Nat := c.1 + 16 * c.2
/-- the model's reader stands at t, in text r -/
abbrev RM (v : Nat → Int32) (A : Nat → Nat → Int32) (T : Nat → Int32) (n r : Nat) (t : gS) : Prop := TM v A T n t.1 ∧ v 9 = 0 ∧ v 11 = nI r ∧ r < 6 ∧ v 12 = nI t.2.1 ∧ t.2.1 ≤ 60 ∧ A 53 r = nI t.2.2.length ∧ ∀ i, i < t.2.2.length → A 52 (400 * r + i) = nI (tkN (t.2.2.getD i (0, 0)))
/-- what a VALUE, a SUM, a comparison leave -/
def xFA (v : Nat → Int32) (A : Nat → Nat → Int32) (v1 : Nat → Int32) (A1 : Nat → Nat → Int32) (r : Nat) : Prop := (∀ k, k ≠ 8 → k ≠ 9 → k ≠ 10 → k ≠ 12 → v1 k = v k) ∧ (∀ k, k ≠ 52 → k ≠ 53 → A1 k = A k) ∧ (∀ k, k < 400 * r → A1 52 k = A 52 k) ∧ ∀ k, k ≠ r → A1 53 k = A 53 k
theorem xFA.rfl (v : Nat → Int32) (A : Nat → Nat → Int32) (r : Nat) : xFA v A v A r := ⟨fun _ _ _ _ _ => Eq.refl _, fun _ _ _ => Eq.refl _, fun _ _ => Eq.refl _, fun _ _ => Eq.refl _⟩
theorem xFA.trans {v1 v2 : Nat → Int32} {A1 A2 : Nat → Nat → Int32} (h : xFA v A v1 A1 r) (g : xFA v1 A1 v2 A2 r) : xFA v A v2 A2 r := ⟨fun k a b c e => (g.1 k a b c e).trans (h.1 k a b c e), fun k a b => (g.2.1 k a b).trans (h.2.1 k a b), fun k a => (g.2.2.1 k a).trans (h.2.2.1 k a), fun k a => (g.2.2.2 k a).trans (h.2.2.2 k a)⟩
theorem xFA.vv {v1 : Nat → Int32} {A1 : Nat → Nat → Int32} {k : Nat} {x : Int32} (h : xFA v A v1 A1 r) (hk : k = 8 ∨ k = 9 ∨ k = 10 ∨ k = 12) : xFA v A (upd v1 k x) A1 r := ⟨fun j a b c e => (if_neg (show ¬ j = k by omega)).trans (h.1 j a b c e), h.2⟩
/-- a fault is told -/
abbrev badE (v1 : Nat → Int32) (e : Nat) : Prop := v1 9 = nI e ∧ 0 < e ∧ e < 4000
def gMK (v1 : Nat → Int32) (A1 : Nat → Nat → Int32) (T : Nat → Int32) (n r : Nat) (o : Option Value) : gR → Prop
  | .inl e => o = some (.int 0) ∧ badE v1 e
  | .inr s => o = some (.int 1) ∧ RM v1 A1 T n r s
def gM (m0 : xM) (v : Nat → Int32) (dx : Int64) (A : Nat → Nat → Int32) (LA : Nat → Nat → Int64) (T : Nat → Int32) (n r : Nat) (x : gR) (o : Option Value) (m2 : xM) : Prop := ∃ v1 A1, m2 = MM m0 v1 dx A1 LA ∧ xFA v A v1 A1 r ∧ gMK v1 A1 T n r o x
theorem gM.mono {v1 : Nat → Int32} {A1 : Nat → Nat → Int32} {x : gR} {o : Option Value} {m2 : xM} (h : gM m0 v1 dx A1 LA T n r x o m2) (hc : xFA v A v1 A1 r) : gM m0 v dx A LA T n r x o m2 := by
  obtain ⟨v2, A2, e, c, g⟩ := h
  exact ⟨v2, A2, e, hc.trans c, g⟩
theorem gM.ret {x : gR} {o : Option Value} {m2 : xM} (h : gM m0 v dx A LA T n r x o m2) : ∃ b : Int32, o = some (.int b) ∧ (b = 0 ∨ b = 1) := by
  obtain ⟨F1, I1, _, _, g⟩ := h
  cases x with
  | inl e => exact ⟨0, g.1, Or.inl rfl⟩
  | inr s => exact ⟨1, g.1, Or.inr rfl⟩
theorem RM.vv {k : Nat} {x : Int32} (h : RM v A T n r t) (hk : k ≠ 1 ∧ k ≠ 8 ∧ k ≠ 9 ∧ k ≠ 11 ∧ k ≠ 12) : RM (upd v k x) A T n r t := by
  obtain ⟨⟨a1, a2, a3, a4, i, a5, a6⟩, b1, b2, b3, b4, b5⟩ := h
  exact ⟨⟨a1, (if_neg (show ¬ 1 = k by omega)).trans a2, a3, a4, i, (if_neg (show ¬ 8 = k by omega)).trans a5, a6⟩, (if_neg (show ¬ 9 = k by omega)).trans b1, (if_neg (show ¬ 11 = k by omega)).trans b2, b3, (if_neg (show ¬ 12 = k by omega)).trans b4, b5⟩
theorem RM.here (h : RM v A T n r t) : RM (upd v 8 (nI t.1)) A T n r t := ⟨h.1.here, h.2⟩
theorem RM.at {q i : Nat} (h : RM v A T n r t) (hi : i ≤ n) (e : skE T n i = q) : RM (upd v 8 (nI i)) A T n r (q, t.2) := ⟨h.1.at hi e, h.2⟩
theorem RM.one (h : RM v A T n r t) (hk : t.2.1 < 60) : RM (upd v 12 (nI (t.2.1 + 1))) A T n r (t.1, t.2.1 + 1, t.2.2) := ⟨h.1, h.2.1, h.2.2.1, h.2.2.2.1, rfl, hk, h.2.2.2.2.2.2⟩
def ptA (A : Nat → Nat → Int32) (r l : Nat) (c : Nat × Nat) : Nat → Nat → Int32 := va_up (va_up A 52 (upd (A 52) (400 * r + l) (nI (tkN c)))) 53 (upd (A 53) r (nI (l + 1)))
theorem RM.put {c : Nat × Nat} (h : RM v A T n r t) : RM v (ptA A r t.2.2.length c) T n r (gPt c t) := by
  obtain ⟨a1, a2, a3, a4, a5, a6, a7, a9⟩ := h
  have hl : (t.2.2 ++ [c]).length = t.2.2.length + 1 := by rw [List.length_append]; rfl
  refine ⟨a1, a2, a3, a4, a5, a6, ?_, fun i hi => ?_⟩
  · show upd (A 53) r (nI (t.2.2.length + 1)) r = nI (t.2.2 ++ [c]).length
    rw [hl]
    exact if_pos rfl
  · have hi2 : i < t.2.2.length + 1 := by
      rw [← hl]
      exact hi
    show upd (A 52) (400 * r + t.2.2.length) (nI (tkN c)) (400 * r + i) = nI (tkN ((t.2.2 ++ [c]).getD i (0, 0)))
    by_cases e : i = t.2.2.length
    · subst e
      rw [List.getD_eq_getElem?_getD, List.getElem?_append_right (Nat.le_refl _), Nat.sub_self]
      exact if_pos rfl
    · rw [List.getD_eq_getElem?_getD, List.getElem?_append_left (by omega), ← List.getD_eq_getElem?_getD, ← a9 i (by omega)]
      exact if_neg (show ¬ 400 * r + i = 400 * r + t.2.2.length by omega)
theorem xFA.put (v : Nat → Int32) (A : Nat → Nat → Int32) (r l : Nat) (c : Nat × Nat) : xFA v A v (ptA A r l c) r := ⟨fun _ _ _ _ _ => Eq.refl _, fun k a b => (up_ne _ _ b).trans (up_ne _ _ a), fun k hk => if_neg (show ¬ k = 400 * r + l by omega), fun k hk => if_neg hk⟩
theorem x_puts (c : Nat × Nat) {d : Nat} {y z : Int32} (h : RM v A T n r t) (hl : t.2.2.length < 400) (hy : y = nI c.1) (hz : z = nI c.2) : Cl d j_M_puts [.ref 50, .int y, .int z] (MM m0 v dx A LA) (Pv (MM m0 v dx (ptA A r t.2.2.length c) LA)) := by
  subst hy hz
  exact x_M_puts h.2.2.1 h.2.2.2.1 h.2.2.2.2.2.2.1 hl
theorem gM.bad {e : Nat} {v1 : Nat → Int32} {A1 : Nat → Nat → Int32} (h : xFA v A v1 A1 r) (h9 : badE v1 e) : gM m0 v dx A LA T n r (.inl e) (some (.int 0)) (MM m0 v1 dx A1 LA) := ⟨v1, A1, rfl, h, rfl, h9⟩
theorem gM.ok {v1 : Nat → Int32} {A1 : Nat → Nat → Int32} (h : xFA v A v1 A1 r) (h9 : RM v1 A1 T n r t) : gM m0 v dx A LA T n r (.inr t) (some (.int 1)) (MM m0 v1 dx A1 LA) := ⟨v1, A1, rfl, h, rfl, h9⟩
theorem x_value {d : Nat} (hd : 3 ≤ d) (h : RM v A T n r t) (hl : t.2.2.length ≤ t.1) : Cl d j_M_value [.ref 50] (MM m0 v dx A LA) (gM m0 v dx A LA T n r (gVa T n t)) := by
  have h4 := h.1.2.2.1
  have hp := h.1.le
  show Rn d j_M_value 0 _ _ _ _
  refine Rn.step (pc' := 1) rfl rfl ?_
  refine Rn.vi (pc' := 4) rfl (by decide) (by omega) rfl rfl rfl (x_see h.1) ?_
  refine Rn.step (pc' := 5) rfl rfl ?_
  refine Rn.step (pc' := 6) rfl rfl ?_
  refine Rn.getf (pc' := 9) rfl rfl rfl rfl rfl ?_
  refine Rn.step (pc' := 10) rfl rfl ?_
  refine Rn.step (pc' := 11) rfl rfl ?_
  refine Rn.step (pc' := 12) rfl rfl ?_
  refine Rn.getf (pc' := 15) rfl rfl rfl rfl rfl ?_
  refine Rn.vi (pc' := 18) rfl (by decide) (by omega) rfl rfl rfl (x_M_isDigit (n := n) (k := t.1) (by exact h.1.2.1) h4 (by omega)) ?_
  refine Rn.ifp_eq (pc1 := 52) (pc2 := 21) rfl rfl rfl (fun h18 => ?_) (fun h18 => ?_)
  · have k2 := fun z => h18 (h.1.1.symm ▸ (kd2_iff h.1.2.2.2.1).mpr z)
    refine Rn.step (pc' := 53) rfl rfl ?_
    refine Rn.vi (pc' := 56) rfl (by decide) (by omega) rfl rfl rfl (x_wordHere (by omega) h.1.here) ?_
    refine Rn.step (pc' := 57) rfl rfl ?_
    rw [updO]
    rw [show gVa T n t = (if wix T t.1 (leE T n t.1) ws2 0 < 0 then gFl t 0 else gPa t (fun z => .inr (gAd T n (gPt (1, (wix T t.1 (leE T n t.1) ws2 0).toNatClampNeg) z)))) from if_neg k2]
    refine Rn.step (pc' := 58) rfl rfl ?_
    refine Rn.ifc_ge (pc1 := 68) (pc2 := 61) rfl rfl rfl (fun h58 => ?_) (fun h58 => ?_)
    · rw [if_neg (Int32.not_lt.mpr h58)]
      have kd := wdP_kd h.1.2.2.2.1 (Int32.not_lt.mpr h58)
      have hlt : t.1 < n := Nat.lt_of_not_le (fun z => by rw [kd0 z] at kd; exact absurd kd (by decide))
      obtain ⟨j, j15, ej⟩ : ∃ j, j < 15 ∧ wix T t.1 (leE T n t.1) ws2 0 = nI j := by
        rcases wix_r (T := T) (p := t.1) (q := leE T n t.1) ws2 0 with e | ⟨j, _, b, e⟩
        · rw [e] at h58
          exact absurd h58 (by decide)
        · exact ⟨j, by rw [Nat.zero_add] at b; exact b, e⟩
      refine Rn.step (pc' := 69) rfl rfl ?_
      refine Rn.step (pc' := 70) rfl rfl ?_
      refine Rn.callV (pc' := 73) rfl (by decide) (by omega) rfl rfl rfl (x_M_makes (p := t.1) (c := t.2.1) (by omega) (by exact h.2.1) (by exact h.2.2.2.2.1) h.2.2.2.2.2.1) (fun r_ m_ hc_ => ?_)
      by_cases h60 : t.2.1 < 60
      rotate_left
      · obtain ⟨rfl, rfl⟩ := hc_.2 h60
        rw [show gPa t _ = gFl t 3 from if_neg h60]
        refine Rn.ifc_ne (pc1 := 78) (pc2 := 76) rfl rfl rfl (fun h36 => absurd rfl h36) (fun h36 => ?_)
        refine Rn.iconst (v := 0) (pc' := 77) rfl (by decide) rfl ?_
        refine Rn.iret rfl rfl ?_
        exact gM.bad (((xFA.rfl v A r).vv (by omega)).vv (by omega)) ⟨rfl, by omega⟩
      obtain ⟨rfl, rfl⟩ := hc_.1 h60
      rw [show gPa t _ = _ from if_pos h60]
      refine Rn.ifc_ne (pc1 := 78) (pc2 := 76) rfl rfl rfl (fun h73 => ?_) (fun h73 => absurd h73 (fun z => absurd z (by decide)))
      refine Rn.step (pc' := 79) rfl rfl ?_
      refine Rn.vv (pc' := 82) rfl (by decide) (by omega) rfl rfl rfl (x_M_pass (n := n) (i := t.1) (by exact h.1.2.1) h4 (by omega) rfl h.1.le) ?_
      rw [h.1.1]
      have h9 : RM (upd (upd (upd v 8 (nI t.1)) 12 (nI (t.2.1 + 1))) 8 (nI (leE T n t.1))) A T n r (nxE T n t.1, t.2.1 + 1, t.2.2) := (h.here.one h60).at (by exact rnE_le h.1.le) (by unfold nxE; rw [(tz1 kd).1])
      refine Rn.step (pc' := 83) rfl rfl ?_
      refine Rn.iconst (v := 1) (pc' := 84) rfl (by decide) rfl ?_
      refine Rn.step (pc' := 85) rfl rfl ?_
      refine Rn.vv (pc' := 88) rfl (by decide) (by omega) rfl rfl rfl (x_puts (1, j) h9 (show t.2.2.length < 400 by omega) rfl ej) ?_
      refine Rn.iconst (v := 1) (pc' := 89) rfl (by decide) rfl ?_
      exact Rn.iret rfl (rfl) (by
              rw [show (wix T t.1 (leE T n t.1) ws2 0).toNatClampNeg = j by rw [ej, nI_clamp (by omega)]]
              exact gM.ok (((((xFA.rfl v A r).vv (by omega)).vv (by omega)).vv (by omega)).trans (xFA.put _ _ _ _ _)) h9.put)
    · rw [if_pos (Int32.not_le.mp h58)]
      refine Rn.step (pc' := 62) rfl rfl ?_
      refine Rn.iconst (v := 0) (pc' := 63) rfl (by decide) rfl ?_
      refine Rn.step (pc' := 64) rfl rfl ?_
      refine Rn.vi (pc' := 67) rfl (by decide) (by omega) rfl rfl rfl (x_M_fails (k := 0) (p := t.1) (by exact h.2.1)) ?_
      exact Rn.iret rfl (rfl) (gM.bad (((xFA.rfl v A r).vv (by omega)).vv (by omega)) ⟨rfl, by omega⟩)
  · have k2 := (kd2_iff h.1.2.2.2.1).mp (h.1.1 ▸ h18)
    have hlt := h18.1
    refine Rn.step (pc' := 22) rfl rfl ?_
    refine Rn.iconst (v := 0) (pc' := 23) rfl (by decide) rfl ?_
    refine Rn.iconst (v := 99999) (pc' := 25) rfl (by decide) rfl ?_
    refine Rn.callV (pc' := 28) rfl (by decide) (by omega) rfl rfl rfl (x_number (by omega) h.1.here (by exact h.2.1)) (fun r_ m_ hc_ => ?_)
    obtain ⟨hc1, hc2⟩ := hc_
    replace hc2 := hc2 k2
    rw [show gVa T n t = (if tkE T n t.1 - t.1 ≤ 5 then gPa t (fun z => .inr (gAd T n (gPt (0, dcN T (tkE T n t.1 - t.1) t.1 0) z))) else gFl t 1) from if_pos k2]
    by_cases h5 : tkE T n t.1 - t.1 ≤ 5
    rotate_left
    · obtain ⟨rfl, rfl⟩ := hc2.2 (fun z => h5 z.1)
      rw [if_neg h5]
      refine Rn.ifc_eq (pc1 := 39) (pc2 := 31) rfl rfl rfl (fun h28 => ?_) (fun h28 => absurd rfl h28)
      refine Rn.iconst (v := 0) (pc' := 40) rfl (by decide) rfl ?_
      refine Rn.iret rfl rfl ?_
      exact gM.bad (((((xFA.rfl v A r).vv (by omega)).vv (by omega)).vv (by omega)).vv (by omega)) ⟨rfl, by omega⟩
    obtain ⟨t1, t2⟩ := tz2 k2
    obtain ⟨e1, e2⟩ := dc_dv (T := T) (tkE T n t.1 - t.1) t.1 0 (fun k a b => (rnE_in (lo := 48) (hi := 57) (T := T) (n := n) (i := t.1) (k := k) a (by rw [← t1]; omega)).2)
    have ev : vlE T n t.1 = nI (dcN T (tkE T n t.1 - t.1) t.1 0) := by
      rw [t2, ← t1, show min 5 (tkE T n t.1 - t.1) = tkE T n t.1 - t.1 by omega]
      exact e1
    have el : dcN T (tkE T n t.1 - t.1) t.1 0 < 100000 := Nat.lt_of_lt_of_le e2 (by rw [Nat.zero_add, Nat.one_mul]; exact Nat.pow_le_pow_right (j := 5) (by decide) h5)
    obtain ⟨rfl, rfl⟩ := hc2.1 ⟨h5, by rw [ev]; exact (nI_leI (a := 0) (b := _) (by omega) (by omega)).mpr (Nat.zero_le _), by rw [ev]; exact (nI_leI (a := _) (b := 99999) (by omega) (by omega)).mpr (by omega)⟩
    rw [if_pos h5]
    clear hc1 hc2
    rw [updO]
    refine Rn.ifc_eq (pc1 := 39) (pc2 := 31) rfl rfl rfl (fun h28 => absurd h28 (fun z => absurd z (by decide))) (fun h28 => ?_)
    refine Rn.step (pc' := 32) rfl rfl ?_
    refine Rn.step (pc' := 33) rfl rfl ?_
    refine Rn.callV (pc' := 36) rfl (by decide) (by omega) rfl rfl rfl (x_M_makes (p := t.1) (c := t.2.1) (by omega) (by exact h.2.1) (by exact h.2.2.2.2.1) h.2.2.2.2.2.1) (fun r_ m_ hc_ => ?_)
    by_cases h60 : t.2.1 < 60
    rotate_left
    · obtain ⟨rfl, rfl⟩ := hc_.2 h60
      rw [show gPa t _ = gFl t 3 from if_neg h60]
      refine Rn.ifc_ne (pc1 := 41) (pc2 := 39) rfl rfl rfl (fun h36 => absurd rfl h36) (fun h36 => ?_)
      refine Rn.iconst (v := 0) (pc' := 40) rfl (by decide) rfl ?_
      refine Rn.iret rfl rfl ?_
      exact gM.bad ((((xFA.rfl v A r).vv (by omega)).vv (by omega)).vv (by omega)) ⟨rfl, by omega⟩
    obtain ⟨rfl, rfl⟩ := hc_.1 h60
    rw [show gPa t _ = _ from if_pos h60]
    have h9 : RM (upd (upd (upd v 8 (nI (tkE T n t.1))) 10 (vlE T n t.1)) 12 (nI (t.2.1 + 1))) A T n r (nxE T n t.1, t.2.1 + 1, t.2.2) := (RM.vv (h.at (q := nxE T n t.1) (tkE_le h.1.le) rfl) (by omega)).one h60
    refine Rn.ifc_ne (pc1 := 41) (pc2 := 39) rfl rfl rfl (fun h36 => ?_) (fun h36 => absurd h36 (fun z => absurd z (by decide)))
    refine Rn.step (pc' := 42) rfl rfl ?_
    refine Rn.iconst (v := 0) (pc' := 43) rfl (by decide) rfl ?_
    refine Rn.step (pc' := 44) rfl rfl ?_
    refine Rn.getf (pc' := 47) rfl rfl rfl rfl rfl ?_
    refine Rn.vv (pc' := 50) rfl (by decide) (by omega) rfl rfl rfl (x_puts (0, dcN T (tkE T n t.1 - t.1) t.1 0) h9 (show t.2.2.length < 400 by omega) rfl ev) ?_
    refine Rn.iconst (v := 1) (pc' := 51) rfl (by decide) rfl ?_
    exact Rn.iret rfl (rfl) (gM.ok (((((xFA.rfl v A r).vv (by omega)).vv (by omega)).vv (by omega)).trans (xFA.put _ _ _ _ _)) h9.put)
end T3
end MU2
