/-! THE MODEL: its reader: SUMS. -/
section MV2
variable {m0 : xM} {v : Nat → Int32} {dx : Int64} {A : Nat → Nat → Int32} {LA : Nat → Nat → Int64} {s : Nat → Int32}
section T4
variable {T : Nat → Int32} {n r : Nat} {t : gS}
abbrev isMl (k : Nat) : Prop := k = 4 ∨ k = 5 ∨ k = 14
abbrev isAd (k : Nat) : Prop := k = 2 ∨ k = 3
def gTq (T : Nat → Int32) (n : Nat) : Nat → gS → gR
  | 0, _ => .inl 0
  | f + 1, s => if isMl (rkE T n s.1) then gBd (gVa T n (gAd T n s)) (fun z => gTq T n f (gPt (rkE T n s.1, 0) z)) else .inr s
def gTm (T : Nat → Int32) (n : Nat) (s : gS) : gR := gBd (gVa T n s) (gTq T n (n + 1))
def gSq (T : Nat → Int32) (n : Nat) : Nat → gS → gR
  | 0, _ => .inl 0
  | f + 1, s => if isAd (rkE T n s.1) then gBd (gTm T n (gAd T n s)) (fun z => gSq T n f (gPt (rkE T n s.1, 0) z)) else .inr s
def gSm (T : Nat → Int32) (n : Nat) (s : gS) : gR := gBd (gTm T n s) (gSq T n (n + 1))
theorem gBd_a (x : gR) (f g : gS → gR) : gBd (gBd x f) g = gBd x (fun z => gBd (f z) g) := by
  cases x <;> rfl
theorem gBd_c {x : gR} {f g : gS → gR} (h : ∀ z, x = .inr z → f z = g z) : gBd x f = gBd x g := by
  cases x with
  | inl e => rfl
  | inr z => exact h z rfl
theorem gSl_m (hT : ∀ i, -128 ≤ T i ∧ T i ≤ 127) : ∀ (m f f1 f2 wt : Nat) (s : gS), n - s.1 < m → s.1 ≤ n → n - s.1 < f → n - s.1 < f1 → n - s.1 < f2 → (wt = 0 ∨ isAd wt) → gSl T n f wt s = gBd (gTq T n f1 s) (fun z => gSq T n f2 (gFs wt z))
  | 0, _, _, _, _, _, h, _, _, _, _, _ => absurd h (Nat.not_lt_zero _)
  | m + 1, f + 1, f1 + 1, f2 + 1, wt, s, hm, hs, hf, hf1, hf2, hwt => by
    have hb := gFs_b wt s
    by_cases k0 : rkE T n s.1 = 0
    · have e1 : gTq T n (f1 + 1) s = .inr s := if_neg (fun z => by unfold isMl at z; omega)
      have e2 : gSq T n (f2 + 1) (gFs wt s) = .inr (gFs wt s) := if_neg (fun z => by unfold isAd at z; rw [hb.1] at z; omega)
      rw [e1]
      show gSl T n (f + 1) wt s = gSq T n (f2 + 1) (gFs wt s)
      rw [e2]
      exact if_pos k0
    · have hx := nx_gt hT hs (rk_kd k0)
      have hx2 : nxE T n s.1 ≤ n := nx_le hs
      by_cases k1 : isAd (rkE T n s.1)
      · have e1 : gTq T n (f1 + 1) s = .inr s := if_neg (fun z => by unfold isMl at z; unfold isAd at k1; omega)
        have e2 : gSq T n (f2 + 1) (gFs wt s) = gBd (gTm T n (gAd T n (gFs wt s))) (fun z => gSq T n f2 (gPt (rkE T n s.1, 0) z)) := by
          have : gSq T n (f2 + 1) (gFs wt s) = gBd (gTm T n (gAd T n (gFs wt s))) (fun z => gSq T n f2 (gPt (rkE T n (gFs wt s).1, 0) z)) := if_pos (by unfold isAd at k1 ⊢; rw [hb.1]; exact k1)
          rw [this, hb.1]
        have e3 : gSl T n (f + 1) wt s = gBd (gVa T n (gAd T n (gFs wt s))) (fun z => gSl T n f (rkE T n s.1) z) := (if_neg k0).trans (if_pos k1)
        rw [e1, e3]
        show _ = gSq T n (f2 + 1) (gFs wt s)
        rw [e2]
        unfold gTm
        rw [gBd_a]
        refine gBd_c (fun z hz => ?_)
        have q1 : (gAd T n (gFs wt s)).1 = nxE T n s.1 := by show nxE T n (gFs wt s).1 = _; rw [hb.1]
        have b := gVa_b hT (by rw [q1]; exact hx2) hz
        have hwk : gFs (rkE T n s.1) = gPt (rkE T n s.1, 0) := funext fun y => if_neg k0
        rw [gSl_m hT m f (n + 1) f2 (rkE T n s.1) z (by omega) (by omega) (by omega) (by omega) (by omega) (Or.inr k1), hwk]
      · have k2 : isMl (rkE T n s.1) := by
          unfold isAd at k1
          unfold isMl
          rcases rk_in (T := T) (n := n) s.1 with e | e | e | e | e | e <;> omega
        have e1 : gTq T n (f1 + 1) s = gBd (gVa T n (gAd T n s)) (fun z => gTq T n f1 (gPt (rkE T n s.1, 0) z)) := if_pos k2
        have e3 : gSl T n (f + 1) wt s = gBd (gVa T n (gAd T n s)) (fun z => gSl T n f wt (gPt (rkE T n s.1, 0) z)) := (if_neg k0).trans (if_neg k1)
        rw [e1, e3, gBd_a]
        refine gBd_c (fun z hz => ?_)
        have b := gVa_b (t := gAd T n s) hT hx2 hz
        have q1 : (gAd T n s).1 = nxE T n s.1 := rfl
        have q4 : (gPt (rkE T n s.1, 0) z).1 = z.1 := rfl
        exact gSl_m hT m f f1 (f2 + 1) wt (gPt (rkE T n s.1, 0) z) (by omega) (by omega) (by omega) (by omega) (by omega) hwt
theorem gSu_m (hT : ∀ i, -128 ≤ T i ∧ T i ≤ 127) {s : gS} (hs : s.1 ≤ n) : gSu T n s = gSm T n s := by
  unfold gSu gSm gTm
  rw [gBd_a]
  refine gBd_c (fun z hz => ?_)
  have b := gVa_b hT hs hz
  exact gSl_m hT (n + 1) (n + 1) (n + 1) (n + 1) 0 z (by omega) (by omega) (by omega) (by omega) (by omega) (Or.inl rfl)
theorem cu_sg {p : Nat} {c : Int32} (h1 : c ≠ -1) (h2 : ¬ (97 ≤ c ∧ c ≤ 122)) (h3 : ¬ (48 ≤ c ∧ c ≤ 57)) (h4 : c ≠ 60) (h5 : c ≠ 62) (h6 : c ≠ 316) (h7 : c ≠ 318) : cuE T n p = c ↔ sgE T n p c := by
  constructor
  · intro h
    unfold cuE at h
    by_cases hp : p < n
    · rw [if_pos hp] at h
      have k3 : kdE T n p = 3 := kd3 (by omega) (by rw [h]; exact h2) (by rw [h]; exact h3)
      have ht : ¬ twE T n p := fun z => by
        rcases z.1 with z | z
        · exact h4 (h.symm.trans z)
        · exact h5 (h.symm.trans z)
      exact ⟨k3, by rw [(tz4 k3 ht).2, h]⟩
    · rw [if_neg hp] at h
      exact absurd h.symm h1
  · intro h
    have hp : p < n := Nat.lt_of_not_le (fun z => by have := h.1; rw [kd0 z] at this; exact absurd this (by decide))
    unfold cuE
    rw [if_pos hp]
    by_cases ht : twE T n p
    · have := h.2
      rw [(tz3 h.1 ht).2] at this
      rcases ht.1 with z | z
      · rw [z] at this
        exact absurd this.symm h6
      · rw [z] at this
        exact absurd this.symm h7
    · have := h.2
      rw [(tz4 h.1 ht).2] at this
      exact this
theorem sg_tk {p : Nat} {c : Int32} (hT : ∀ i, -128 ≤ T i ∧ T i ≤ 127) (h2 : ¬ (97 ≤ c ∧ c ≤ 122)) (h3 : ¬ (48 ≤ c ∧ c ≤ 57)) (h4 : c ≠ 60) (h5 : c ≠ 62) (h0 : 0 ≤ c) (h9 : c ≤ 127) (h : cuE T n p = c) (h1 : c ≠ -1) : p < n ∧ T p = c ∧ tkE T n p = p + 1 := by
  unfold cuE at h
  by_cases hp : p < n
  · rw [if_pos hp] at h
    have k3 : kdE T n p = 3 := kd3 (by omega) (by rw [h]; exact h2) (by rw [h]; exact h3)
    have ht : ¬ twE T n p := fun z => by
      rcases z.1 with z | z
      · exact h4 (h.symm.trans z)
      · exact h5 (h.symm.trans z)
    have e : fcE T p = T p := by255b (hT p).1 (hT p).2 h9 h0 (lo := c) (hi := c) (by show c ≤ fcE T p ∧ fcE T p ≤ c; rw [h]; exact ⟨Int32.le_refl _, Int32.le_refl _⟩)
    exact ⟨hp, by rw [← e, h], (tz4 k3 ht).1⟩
  · rw [if_neg hp] at h
    exact absurd h.symm h1
theorem rk_cu (p : Nat) : (cuE T n p = 43 ↔ rkE T n p = 2) ∧ (cuE T n p = 45 ↔ rkE T n p = 3) ∧ (cuE T n p = 42 ↔ rkE T n p = 4) ∧ (cuE T n p = 47 ↔ rkE T n p = 5) ∧ (cuE T n p = 37 ↔ rkE T n p = 14) := by
  rw [cu_sg (by decide) (by decide) (by decide) (by decide) (by decide) (by decide) (by decide), cu_sg (by decide) (by decide) (by decide) (by decide) (by decide) (by decide) (by decide), cu_sg (by decide) (by decide) (by decide) (by decide) (by decide) (by decide) (by decide), cu_sg (by decide) (by decide) (by decide) (by decide) (by decide) (by decide) (by decide), cu_sg (by decide) (by decide) (by decide) (by decide) (by decide) (by decide) (by decide)]
  unfold sgE rkE
  by_cases k : kdE T n p = 3
  · rw [if_pos k]
    by_cases a : vlE T n p = 43
    · rw [if_pos a, a]; simp [k]
    · rw [if_neg a]
      by_cases b : vlE T n p = 45
      · rw [if_pos b, b]; simp [k]
      · rw [if_neg b]
        by_cases c : vlE T n p = 42
        · rw [if_pos c, c]; simp [k]
        · rw [if_neg c]
          by_cases d : vlE T n p = 47
          · rw [if_pos d, d]; simp [k]
          · rw [if_neg d]
            by_cases e : vlE T n p = 37
            · rw [if_pos e, e]; simp [k]
            · rw [if_neg e]; simp [k, a, b, c, d, e]
  · rw [if_neg k]
    simp [k]
theorem l_X_t75 {d c : Nat} {Q : Option Value → xM → Prop} (hd : 4 ≤ d) (h : RM v A T n r t) (hl : t.2.2.length ≤ nxE T n t.1) (hb1 : t.1 + 1 ≤ n) (htk : tkE T n t.1 = t.1 + 1) (hB : ∀ z, gVa T n (gAd T n t) = .inr z → z.2.2.length < 400) (hQ : ∀ v1 A1 e, gVa T n (gAd T n t) = .inl e → xFA v A v1 A1 r → badE v1 e → Q (some (.int 0)) (MM m0 v1 dx A1 LA)) (kk : ∀ v1 A1 {z}, RM v1 A1 T n r (gPt (c, 0) z) → xFA v A v1 A1 r → gVa T n (gAd T n t) = .inr z → Rn d j_M_term 9 [.ref 50, .int (nI c)] [] (MM m0 v1 dx A1 LA) Q) : Rn d j_M_term 75 [.ref 50, .int (nI c)] [] (MM m0 (upd v 8 (nI t.1)) dx A LA) Q := by
  refine Rn.step (pc' := 76) rfl rfl ?_
  refine Rn.step (pc' := 77) rfl rfl ?_
  refine Rn.getf (pc' := 80) rfl rfl rfl rfl rfl ?_
  refine Rn.iconst (v := 1) (pc' := 81) rfl (by decide) rfl ?_
  refine Rn.iadd (pc' := 82) rfl rfl ?_
  refine Rn.mput (pc' := 85) rfl rfl rfl rfl (by decide) rfl ?_
  rw [updO, show upd v 8 (nI t.1) 8 + 1 = nI (t.1 + 1) from nI_add _ 1]
  have h8 : RM (upd v 8 (nI (t.1 + 1))) A T n r (gAd T n t) := h.at hb1 (by show skE T n (t.1 + 1) = skE T n (tkE T n t.1); rw [htk])
  refine Rn.step (pc' := 86) rfl rfl ?_
  refine Rn.callV (pc' := 89) rfl (by decide) (by omega) rfl rfl rfl (x_value (by omega) h8 (by show t.2.2.length ≤ nxE T n t.1; omega)) (fun r_ m_ hc_ => ?_)
  obtain ⟨v1, A1, rfl, hc1, hg⟩ := hc_
  have hcF : xFA v A v1 A1 r := (xFA.vv (xFA.rfl v A r) (Or.inl rfl)).trans hc1
  cases hV : gVa T n (gAd T n t) with
  | inl e =>
    rw [hV] at hg
    obtain ⟨rfl, h9⟩ := hg
    refine Rn.ifc_ne (pc1 := 94) (pc2 := 92) rfl rfl rfl (fun h36 => absurd rfl h36) (fun h36 => ?_)
    refine Rn.iconst (v := 0) (pc' := 93) rfl (by decide) rfl ?_
    refine Rn.iret rfl rfl ?_
    exact hQ _ _ _ hV hcF h9
  | inr z =>
    rw [hV] at hg
    obtain ⟨rfl, h9⟩ := hg
    have hb := hB z hV
    refine Rn.ifc_ne (pc1 := 94) (pc2 := 92) rfl rfl rfl (fun h89 => ?_) (fun h89 => absurd h89 (fun z => absurd z (by decide)))
    refine Rn.step (pc' := 95) rfl rfl ?_
    refine Rn.step (pc' := 96) rfl rfl ?_
    refine Rn.iconst (v := 0) (pc' := 97) rfl (by decide) rfl ?_
    refine Rn.vv (pc' := 100) rfl (by decide) (by omega) rfl rfl rfl (x_puts (c, 0) h9 (by omega) rfl rfl) ?_
    refine Rn.step (pc' := 9) rfl rfl ?_
    exact kk _ _ h9.put (hcF.trans (xFA.put _ _ _ _ _)) hV
theorem l_X_term {d : Nat} (hd : 4 ≤ d) : ∀ (f : Nat) (v : Nat → Int32) (A : Nat → Nat → Int32) (t : gS) (x : Value), RM v A T n r t → n - t.1 < f → t.2.2.length ≤ t.1 → Rn d j_M_term 9 [.ref 50, x] [] (MM m0 v dx A LA) (gM m0 v dx A LA T n r (gTq T n f t))
  | 0, _, _, _, _, _, h, _ => absurd h (Nat.not_lt_zero _)
  | f + 1, v, A, t, x, h, hf, hl => by
    have h4 := h.1.2.2.1
    have hp := h.1.le
    have hV : t.1 + 1 ≤ nxE T n t.1 → ∀ z, gVa T n (gAd T n t) = .inr z → nxE T n t.1 < z.1 ∧ z.1 ≤ n ∧ z.2.2.length = t.2.2.length + 1 ∧ z.2.2.length < 400 := fun hg z hz => by
      have b := gVa_b (t := gAd T n t) h.1.2.2.2.1 (nx_le hp) hz
      have q1 : (gAd T n t).1 = nxE T n t.1 := rfl
      have q2 : (gAd T n t).2.2.length = t.2.2.length := rfl
      have q3 : t.1 ≤ nxE T n t.1 := Nat.le_trans (tkE_b h4 hp).1 rnE_ge
      refine ⟨?_, ?_, ?_, ?_⟩ <;> omega
    have hnx : t.1 ≤ nxE T n t.1 := Nat.le_trans (tkE_b h4 hp).1 rnE_ge
    refine Rn.step (pc' := 10) rfl rfl ?_
    refine Rn.vi (pc' := 13) rfl (by decide) (by omega) rfl rfl rfl (x_see h.1) ?_
    refine Rn.iconst (v := 42) (pc' := 15) rfl (by decide) rfl ?_
    refine Rn.icmp_eq (pc1 := 36) (pc2 := 18) rfl rfl rfl (fun h15 => ?_) (fun h15 => ?_)
    · obtain ⟨hq1, hq2, hq3⟩ := sg_tk (T := T) (n := n) (p := t.1) (c := 42) h.1.2.2.2.1 (by decide) (by decide) (by decide) (by decide) (by decide) (by decide) h15 (by decide)
      have hrk : rkE T n t.1 = 4 := (rk_cu (T := T) (n := n) t.1).2.2.1.mp h15
      have hAp : A 51 t.1 = 42 := by rw [h.1.1]; exact hq2
      have hnx2 : t.1 + 1 ≤ nxE T n t.1 := by show _ ≤ skE T n (tkE T n t.1); rw [hq3]; exact rnE_ge
      refine Rn.step (pc' := 37) rfl rfl ?_
      refine Rn.getf (pc' := 40) rfl rfl rfl rfl rfl ?_
      refine Rn.step (pc' := 41) rfl rfl ?_
      refine Rn.getf (pc' := 44) rfl rfl rfl rfl rfl ?_
      refine Rn.mbald (k := t.1) (pc' := 45) rfl rfl (by decide) (rfl) (by omega) (by decide) rfl ?_
      refine Rn.iconst (v := 42) (pc' := 47) rfl (by decide) rfl ?_
      refine Rn.icmp_ne (pc1 := 54) (pc2 := 50) rfl rfl rfl (fun h47 => absurd h47 (fun z => z (by exact hAp))) (fun h47 => ?_)
      refine Rn.iconst (v := 4) (pc' := 51) rfl (by decide) rfl ?_
      refine Rn.step (pc' := 74) rfl rfl ?_
      refine Rn.step (pc' := 75) rfl rfl ?_
      refine l_X_t75 (c := 4) hd h (by omega) (by omega) hq3 (fun z hz => (hV hnx2 z hz).2.2.2) (fun v1 A1 e he hF h9 => ?_) (fun v1 A1 z hz hF hv => ?_)
      · rw [show gTq T n (f + 1) t = _ from if_pos (by unfold isMl; omega), he]
        exact gM.bad hF h9
      · have hvz := hV hnx2 z hv
        rw [show gTq T n (f + 1) t = _ from if_pos (by unfold isMl; omega), hv]
        rw [hrk]
        exact Rn.conseq (l_X_term hd f _ _ (gPt (4, 0) z) _ hz (by show n - z.1 < f; omega) (by rw [gPt_l]; show _ ≤ z.1; omega)) (fun r_ m_ hg => hg.mono hF)
    · refine Rn.step (pc' := 19) rfl rfl ?_
      refine Rn.vi (pc' := 22) rfl (by decide) (by omega) rfl rfl rfl (x_see h.1.here) ?_
      rw [updO]
      refine Rn.iconst (v := 47) (pc' := 24) rfl (by decide) rfl ?_
      refine Rn.icmp_eq (pc1 := 36) (pc2 := 27) rfl rfl rfl (fun h24 => ?_) (fun h24 => ?_)
      · obtain ⟨hq1, hq2, hq3⟩ := sg_tk (T := T) (n := n) (p := t.1) (c := 47) h.1.2.2.2.1 (by decide) (by decide) (by decide) (by decide) (by decide) (by decide) h24 (by decide)
        have hrk : rkE T n t.1 = 5 := (rk_cu (T := T) (n := n) t.1).2.2.2.1.mp h24
        have hAp : A 51 t.1 = 47 := by rw [h.1.1]; exact hq2
        have hnx2 : t.1 + 1 ≤ nxE T n t.1 := by show _ ≤ skE T n (tkE T n t.1); rw [hq3]; exact rnE_ge
        refine Rn.step (pc' := 37) rfl rfl ?_
        refine Rn.getf (pc' := 40) rfl rfl rfl rfl rfl ?_
        refine Rn.step (pc' := 41) rfl rfl ?_
        refine Rn.getf (pc' := 44) rfl rfl rfl rfl rfl ?_
        refine Rn.mbald (k := t.1) (pc' := 45) rfl rfl (by decide) (rfl) (by omega) (by decide) rfl ?_
        refine Rn.iconst (v := 42) (pc' := 47) rfl (by decide) rfl ?_
        refine Rn.icmp_ne (pc1 := 54) (pc2 := 50) rfl rfl rfl (fun h47 => ?_) (fun h47 => absurd h47 (fun z => absurd (hAp.symm.trans z) (by decide)))
        refine Rn.step (pc' := 55) rfl rfl ?_
        refine Rn.getf (pc' := 58) rfl rfl rfl rfl rfl ?_
        refine Rn.step (pc' := 59) rfl rfl ?_
        refine Rn.getf (pc' := 62) rfl rfl rfl rfl rfl ?_
        refine Rn.mbald (k := t.1) (pc' := 63) rfl rfl (by decide) (rfl) (by omega) (by decide) rfl ?_
        refine Rn.iconst (v := 47) (pc' := 65) rfl (by decide) rfl ?_
        refine Rn.icmp_ne (pc1 := 72) (pc2 := 68) rfl rfl rfl (fun h65 => absurd h65 (fun z => z (by exact hAp))) (fun h65 => ?_)
        refine Rn.iconst (v := 5) (pc' := 69) rfl (by decide) rfl ?_
        refine Rn.step (pc' := 74) rfl rfl ?_
        refine Rn.step (pc' := 75) rfl rfl ?_
        refine l_X_t75 (c := 5) hd h (by omega) (by omega) hq3 (fun z hz => (hV hnx2 z hz).2.2.2) (fun v1 A1 e he hF h9 => ?_) (fun v1 A1 z hz hF hv => ?_)
        · rw [show gTq T n (f + 1) t = _ from if_pos (by unfold isMl; omega), he]
          exact gM.bad hF h9
        · have hvz := hV hnx2 z hv
          rw [show gTq T n (f + 1) t = _ from if_pos (by unfold isMl; omega), hv]
          rw [hrk]
          exact Rn.conseq (l_X_term hd f _ _ (gPt (5, 0) z) _ hz (by show n - z.1 < f; omega) (by rw [gPt_l]; show _ ≤ z.1; omega)) (fun r_ m_ hg => hg.mono hF)
      · refine Rn.step (pc' := 28) rfl rfl ?_
        refine Rn.vi (pc' := 31) rfl (by decide) (by omega) rfl rfl rfl (x_see h.1.here) ?_
        rw [updO]
        refine Rn.iconst (v := 37) (pc' := 33) rfl (by decide) rfl ?_
        refine Rn.icmp_ne (pc1 := 103) (pc2 := 36) rfl rfl rfl (fun h33 => ?_) (fun h33 => ?_)
        · refine Rn.iconst (v := 1) (pc' := 104) rfl (by decide) rfl ?_
          exact Rn.iret rfl (rfl) (by
                    rw [show gTq T n (f + 1) t = .inr t from if_neg (fun z => by unfold isMl at z; have q := rk_cu (T := T) (n := n) t.1; rcases z with z | z | z; exact h15 (q.2.2.1.mpr z); exact h24 (q.2.2.2.1.mpr z); exact h33 (q.2.2.2.2.mpr z))]
                    exact gM.ok ((xFA.rfl v A r).vv (by omega)) h.here)
        · obtain ⟨hq1, hq2, hq3⟩ := sg_tk (T := T) (n := n) (p := t.1) (c := 37) h.1.2.2.2.1 (by decide) (by decide) (by decide) (by decide) (by decide) (by decide) h33 (by decide)
          have hrk : rkE T n t.1 = 14 := (rk_cu (T := T) (n := n) t.1).2.2.2.2.mp h33
          have hAp : A 51 t.1 = 37 := by rw [h.1.1]; exact hq2
          have hnx2 : t.1 + 1 ≤ nxE T n t.1 := by show _ ≤ skE T n (tkE T n t.1); rw [hq3]; exact rnE_ge
          refine Rn.step (pc' := 37) rfl rfl ?_
          refine Rn.getf (pc' := 40) rfl rfl rfl rfl rfl ?_
          refine Rn.step (pc' := 41) rfl rfl ?_
          refine Rn.getf (pc' := 44) rfl rfl rfl rfl rfl ?_
          refine Rn.mbald (k := t.1) (pc' := 45) rfl rfl (by decide) (rfl) (by omega) (by decide) rfl ?_
          refine Rn.iconst (v := 42) (pc' := 47) rfl (by decide) rfl ?_
          refine Rn.icmp_ne (pc1 := 54) (pc2 := 50) rfl rfl rfl (fun h47 => ?_) (fun h47 => absurd h47 (fun z => absurd (hAp.symm.trans z) (by decide)))
          refine Rn.step (pc' := 55) rfl rfl ?_
          refine Rn.getf (pc' := 58) rfl rfl rfl rfl rfl ?_
          refine Rn.step (pc' := 59) rfl rfl ?_
          refine Rn.getf (pc' := 62) rfl rfl rfl rfl rfl ?_
          refine Rn.mbald (k := t.1) (pc' := 63) rfl rfl (by decide) (rfl) (by omega) (by decide) rfl ?_
          refine Rn.iconst (v := 47) (pc' := 65) rfl (by decide) rfl ?_
          refine Rn.icmp_ne (pc1 := 72) (pc2 := 68) rfl rfl rfl (fun h65 => ?_) (fun h65 => absurd h65 (fun z => absurd (hAp.symm.trans z) (by decide)))
          refine Rn.iconst (v := 14) (pc' := 74) rfl (by decide) rfl ?_
          refine Rn.step (pc' := 75) rfl rfl ?_
          refine l_X_t75 (c := 14) hd h (by omega) (by omega) hq3 (fun z hz => (hV hnx2 z hz).2.2.2) (fun v1 A1 e he hF h9 => ?_) (fun v1 A1 z hz hF hv => ?_)
          · rw [show gTq T n (f + 1) t = _ from if_pos (by unfold isMl; omega), he]
            exact gM.bad hF h9
          · have hvz := hV hnx2 z hv
            rw [show gTq T n (f + 1) t = _ from if_pos (by unfold isMl; omega), hv]
            rw [hrk]
            exact Rn.conseq (l_X_term hd f _ _ (gPt (14, 0) z) _ hz (by show n - z.1 < f; omega) (by rw [gPt_l]; show _ ≤ z.1; omega)) (fun r_ m_ hg => hg.mono hF)
theorem gTq_b (hT : ∀ i, -128 ≤ T i ∧ T i ≤ 127) : ∀ (f : Nat) (t s' : gS), t.1 ≤ n → gTq T n f t = .inr s' → t.1 ≤ s'.1 ∧ s'.1 ≤ n ∧ s'.2.2.length + t.1 ≤ t.2.2.length + s'.1
  | 0, _, _, _, h => nomatch h
  | f + 1, t, s', hp, h => by
    by_cases k : isMl (rkE T n t.1)
    · rw [show gTq T n (f + 1) t = _ from if_pos k] at h
      obtain ⟨z, e1, e2⟩ := gBd_r h
      have hx := nx_gt hT hp (rk_kd (fun z => by unfold isMl at k; omega))
      have b := gVa_b (t := gAd T n t) hT (nx_le hp) e1
      have q1 : (gAd T n t).1 = nxE T n t.1 := rfl
      have q2 : (gAd T n t).2.2.length = t.2.2.length := rfl
      have q3 := gPt_l (rkE T n t.1, 0) z
      have q4 : (gPt (rkE T n t.1, 0) z).1 = z.1 := rfl
      have b2 := gTq_b hT f _ s' (by rw [q4]; omega) e2
      omega
    · rw [show gTq T n (f + 1) t = .inr t from if_neg k] at h
      obtain rfl := Sum.inr.inj h
      omega
theorem gTm_b (hT : ∀ i, -128 ≤ T i ∧ T i ≤ 127) {t s' : gS} (hp : t.1 ≤ n) (h : gTm T n t = .inr s') : t.1 < s'.1 ∧ s'.1 ≤ n ∧ s'.2.2.length + t.1 ≤ t.2.2.length + s'.1 := by
  obtain ⟨z, e1, e2⟩ := gBd_r h
  have b := gVa_b hT hp e1
  have b2 := gTq_b hT _ z s' b.2.1 e2
  omega
theorem x_term {d : Nat} (hd : 4 ≤ d) (h : RM v A T n r t) (hl : t.2.2.length ≤ t.1) : Cl d j_M_term [.ref 50] (MM m0 v dx A LA) (gM m0 v dx A LA T n r (gTm T n t)) := by
  show Rn d j_M_term 0 _ _ _ _
  unfold gTm
  refine Rn.step (pc' := 1) rfl rfl ?_
  refine Rn.callV (pc' := 4) rfl (by decide) (by omega) rfl rfl rfl (x_value (by omega) h hl) (fun r_ m_ hc_ => ?_)
  obtain ⟨v1, A1, rfl, hc1, hg⟩ := hc_
  cases hV : gVa T n t with
  | inl e =>
    rw [hV] at hg
    obtain ⟨rfl, h9⟩ := hg
    refine Rn.ifc_ne (pc1 := 9) (pc2 := 7) rfl rfl rfl (fun h36 => absurd rfl h36) (fun h36 => ?_)
    refine Rn.iconst (v := 0) (pc' := 8) rfl (by decide) rfl ?_
    refine Rn.iret rfl rfl ?_
    exact gM.bad hc1 h9
  | inr z =>
    rw [hV] at hg
    obtain ⟨rfl, h9⟩ := hg
    have hb := gVa_b h.1.2.2.2.1 h.1.le hV
    refine Rn.ifc_ne (pc1 := 9) (pc2 := 7) rfl rfl rfl (fun h4 => ?_) (fun h4 => absurd h4 (by decide))
    exact Rn.conseq (l_X_term hd (n + 1) _ _ z _ h9 (by omega) (by omega)) (fun r_ m_ hg => hg.mono hc1)
theorem l_X_s47 {d c : Nat} {Q : Option Value → xM → Prop} (hd : 5 ≤ d) (h : RM v A T n r t) (hl2 : t.2.2.length ≤ nxE T n t.1) (hb1 : t.1 + 1 ≤ n) (htk : tkE T n t.1 = t.1 + 1) (hB : ∀ z, gTm T n (gAd T n t) = .inr z → z.2.2.length < 400) (hQ : ∀ v1 A1 e, gTm T n (gAd T n t) = .inl e → xFA v A v1 A1 r → badE v1 e → Q (some (.int 0)) (MM m0 v1 dx A1 LA)) (kk : ∀ v1 A1 {z}, RM v1 A1 T n r (gPt (c, 0) z) → xFA v A v1 A1 r → gTm T n (gAd T n t) = .inr z → Rn d j_M_sum 9 [.ref 50, .int (nI c)] [] (MM m0 v1 dx A1 LA) Q) : Rn d j_M_sum 47 [.ref 50, .int (nI c)] [] (MM m0 (upd v 8 (nI t.1)) dx A LA) Q := by
  refine Rn.step (pc' := 48) rfl rfl ?_
  refine Rn.step (pc' := 49) rfl rfl ?_
  refine Rn.getf (pc' := 52) rfl rfl rfl rfl rfl ?_
  refine Rn.iconst (v := 1) (pc' := 53) rfl (by decide) rfl ?_
  refine Rn.iadd (pc' := 54) rfl rfl ?_
  refine Rn.mput (pc' := 57) rfl rfl rfl rfl (by decide) rfl ?_
  rw [updO, show upd v 8 (nI t.1) 8 + 1 = nI (t.1 + 1) from nI_add _ 1]
  have h8 : RM (upd v 8 (nI (t.1 + 1))) A T n r (gAd T n t) := h.at hb1 (by show skE T n (t.1 + 1) = skE T n (tkE T n t.1); rw [htk])
  refine Rn.step (pc' := 58) rfl rfl ?_
  refine Rn.callV (pc' := 61) rfl (by decide) (by omega) rfl rfl rfl (x_term (by omega) h8 (by rw [show (gAd T n t).2.2.length = t.2.2.length from rfl]; exact hl2)) (fun r_ m_ hc_ => ?_)
  obtain ⟨v1, A1, rfl, hc1, hg⟩ := hc_
  have hcF : xFA v A v1 A1 r := (xFA.vv (xFA.rfl v A r) (Or.inl rfl)).trans hc1
  cases hV : gTm T n (gAd T n t) with
  | inl e =>
    rw [hV] at hg
    obtain ⟨rfl, h9⟩ := hg
    refine Rn.ifc_ne (pc1 := 66) (pc2 := 64) rfl rfl rfl (fun h36 => absurd rfl h36) (fun h36 => ?_)
    refine Rn.iconst (v := 0) (pc' := 65) rfl (by decide) rfl ?_
    refine Rn.iret rfl rfl ?_
    exact hQ _ _ _ hV hcF h9
  | inr z =>
    rw [hV] at hg
    obtain ⟨rfl, h9⟩ := hg
    have hb := hB z hV
    refine Rn.ifc_ne (pc1 := 66) (pc2 := 64) rfl rfl rfl (fun h61 => ?_) (fun h61 => absurd h61 (fun z => absurd z (by decide)))
    refine Rn.step (pc' := 67) rfl rfl ?_
    refine Rn.step (pc' := 68) rfl rfl ?_
    refine Rn.iconst (v := 0) (pc' := 69) rfl (by decide) rfl ?_
    refine Rn.vv (pc' := 72) rfl (by decide) (by omega) rfl rfl rfl (x_puts (c, 0) h9 (by omega) rfl rfl) ?_
    refine Rn.step (pc' := 9) rfl rfl ?_
    exact kk _ _ h9.put (hcF.trans (xFA.put _ _ _ _ _)) hV
theorem l_X_sum {d : Nat} (hd : 5 ≤ d) : ∀ (f : Nat) (v : Nat → Int32) (A : Nat → Nat → Int32) (t : gS) (x : Value), RM v A T n r t → n - t.1 < f → t.2.2.length ≤ t.1 → Rn d j_M_sum 9 [.ref 50, x] [] (MM m0 v dx A LA) (gM m0 v dx A LA T n r (gSq T n f t))
  | 0, _, _, _, _, _, h, _ => absurd h (Nat.not_lt_zero _)
  | f + 1, v, A, t, x, h, hf, hl => by
    have h4 := h.1.2.2.1
    have hp := h.1.le
    have hnx : t.1 ≤ nxE T n t.1 := Nat.le_trans (tkE_b h4 hp).1 rnE_ge
    have hV : t.1 + 1 ≤ nxE T n t.1 → ∀ z, gTm T n (gAd T n t) = .inr z → nxE T n t.1 < z.1 ∧ z.1 ≤ n ∧ z.2.2.length < z.1 ∧ z.2.2.length < 400 := fun hg z hz => by
      have b := gTm_b (t := gAd T n t) h.1.2.2.2.1 (nx_le hp) hz
      have q1 : (gAd T n t).1 = nxE T n t.1 := rfl
      have q2 : (gAd T n t).2.2.length = t.2.2.length := rfl
      refine ⟨?_, ?_, ?_, ?_⟩ <;> omega
    refine Rn.step (pc' := 10) rfl rfl ?_
    refine Rn.vi (pc' := 13) rfl (by decide) (by omega) rfl rfl rfl (x_see h.1) ?_
    refine Rn.iconst (v := 43) (pc' := 15) rfl (by decide) rfl ?_
    refine Rn.icmp_eq (pc1 := 27) (pc2 := 18) rfl rfl rfl (fun h15 => ?_) (fun h15 => ?_)
    · obtain ⟨hq1, hq2, hq3⟩ := sg_tk (T := T) (n := n) (p := t.1) (c := 43) h.1.2.2.2.1 (by decide) (by decide) (by decide) (by decide) (by decide) (by decide) h15 (by decide)
      have hrk : rkE T n t.1 = 2 := (rk_cu (T := T) (n := n) t.1).1.mp h15
      have hAp : A 51 t.1 = 43 := by rw [h.1.1]; exact hq2
      have hnx2 : t.1 + 1 ≤ nxE T n t.1 := by show _ ≤ skE T n (tkE T n t.1); rw [hq3]; exact rnE_ge
      refine Rn.step (pc' := 28) rfl rfl ?_
      refine Rn.getf (pc' := 31) rfl rfl rfl rfl rfl ?_
      refine Rn.step (pc' := 32) rfl rfl ?_
      refine Rn.getf (pc' := 35) rfl rfl rfl rfl rfl ?_
      refine Rn.mbald (k := t.1) (pc' := 36) rfl rfl (by decide) (rfl) (by omega) (by decide) rfl ?_
      refine Rn.iconst (v := 43) (pc' := 38) rfl (by decide) rfl ?_
      refine Rn.icmp_ne (pc1 := 45) (pc2 := 41) rfl rfl rfl (fun h38 => absurd h38 (fun z => z (by exact hAp))) (fun h38 => ?_)
      refine Rn.iconst (v := 2) (pc' := 42) rfl (by decide) rfl ?_
      refine Rn.step (pc' := 46) rfl rfl ?_
      refine Rn.step (pc' := 47) rfl rfl ?_
      refine l_X_s47 (c := 2) hd h (by omega) (by omega) hq3 (fun z hz => (hV hnx2 z hz).2.2.2) (fun v1 A1 e he hF h9 => ?_) (fun v1 A1 z hz hF hv => ?_)
      · rw [show gSq T n (f + 1) t = _ from if_pos (by unfold isAd; omega), he]
        exact gM.bad hF h9
      · have hvz := hV hnx2 z hv
        rw [show gSq T n (f + 1) t = _ from if_pos (by unfold isAd; omega), hv]
        rw [hrk]
        exact Rn.conseq (l_X_sum hd f _ _ (gPt (2, 0) z) _ hz (by show n - z.1 < f; omega) (by rw [gPt_l]; show _ ≤ z.1; omega)) (fun r_ m_ hg => hg.mono hF)
    · refine Rn.step (pc' := 19) rfl rfl ?_
      refine Rn.vi (pc' := 22) rfl (by decide) (by omega) rfl rfl rfl (x_see h.1.here) ?_
      rw [updO]
      refine Rn.iconst (v := 45) (pc' := 24) rfl (by decide) rfl ?_
      refine Rn.icmp_ne (pc1 := 75) (pc2 := 27) rfl rfl rfl (fun h24 => ?_) (fun h24 => ?_)
      · refine Rn.iconst (v := 1) (pc' := 76) rfl (by decide) rfl ?_
        exact Rn.iret rfl (rfl) (by
                  rw [show gSq T n (f + 1) t = .inr t from if_neg (fun z => by unfold isAd at z; have q := rk_cu (T := T) (n := n) t.1; rcases z with z | z; exact h15 (q.1.mpr z); exact h24 (q.2.1.mpr z))]
                  exact gM.ok ((xFA.rfl v A r).vv (by omega)) h.here)
      · obtain ⟨hq1, hq2, hq3⟩ := sg_tk (T := T) (n := n) (p := t.1) (c := 45) h.1.2.2.2.1 (by decide) (by decide) (by decide) (by decide) (by decide) (by decide) h24 (by decide)
        have hrk : rkE T n t.1 = 3 := (rk_cu (T := T) (n := n) t.1).2.1.mp h24
        have hAp : A 51 t.1 = 45 := by rw [h.1.1]; exact hq2
        have hnx2 : t.1 + 1 ≤ nxE T n t.1 := by show _ ≤ skE T n (tkE T n t.1); rw [hq3]; exact rnE_ge
        refine Rn.step (pc' := 28) rfl rfl ?_
        refine Rn.getf (pc' := 31) rfl rfl rfl rfl rfl ?_
        refine Rn.step (pc' := 32) rfl rfl ?_
        refine Rn.getf (pc' := 35) rfl rfl rfl rfl rfl ?_
        refine Rn.mbald (k := t.1) (pc' := 36) rfl rfl (by decide) (rfl) (by omega) (by decide) rfl ?_
        refine Rn.iconst (v := 43) (pc' := 38) rfl (by decide) rfl ?_
        refine Rn.icmp_ne (pc1 := 45) (pc2 := 41) rfl rfl rfl (fun h38 => ?_) (fun h38 => absurd h38 (fun z => absurd (hAp.symm.trans z) (by decide)))
        refine Rn.iconst (v := 3) (pc' := 46) rfl (by decide) rfl ?_
        refine Rn.step (pc' := 47) rfl rfl ?_
        refine l_X_s47 (c := 3) hd h (by omega) (by omega) hq3 (fun z hz => (hV hnx2 z hz).2.2.2) (fun v1 A1 e he hF h9 => ?_) (fun v1 A1 z hz hF hv => ?_)
        · rw [show gSq T n (f + 1) t = _ from if_pos (by unfold isAd; omega), he]
          exact gM.bad hF h9
        · have hvz := hV hnx2 z hv
          rw [show gSq T n (f + 1) t = _ from if_pos (by unfold isAd; omega), hv]
          rw [hrk]
          exact Rn.conseq (l_X_sum hd f _ _ (gPt (3, 0) z) _ hz (by show n - z.1 < f; omega) (by rw [gPt_l]; show _ ≤ z.1; omega)) (fun r_ m_ hg => hg.mono hF)
theorem x_sum {d : Nat} (hd : 5 ≤ d) (h : RM v A T n r t) (hl : t.2.2.length ≤ t.1) : Cl d j_M_sum [.ref 50] (MM m0 v dx A LA) (gM m0 v dx A LA T n r (gSu T n t)) := by
  rw [gSu_m h.1.2.2.2.1 h.1.le]
  show Rn d j_M_sum 0 _ _ _ _
  unfold gSm
  refine Rn.step (pc' := 1) rfl rfl ?_
  refine Rn.callV (pc' := 4) rfl (by decide) (by omega) rfl rfl rfl (x_term (by omega) h hl) (fun r_ m_ hc_ => ?_)
  obtain ⟨v1, A1, rfl, hc1, hg⟩ := hc_
  cases hV : gTm T n t with
  | inl e =>
    rw [hV] at hg
    obtain ⟨rfl, h9⟩ := hg
    refine Rn.ifc_ne (pc1 := 9) (pc2 := 7) rfl rfl rfl (fun h36 => absurd rfl h36) (fun h36 => ?_)
    refine Rn.iconst (v := 0) (pc' := 8) rfl (by decide) rfl ?_
    refine Rn.iret rfl rfl ?_
    exact gM.bad hc1 h9
  | inr z =>
    rw [hV] at hg
    obtain ⟨rfl, h9⟩ := hg
    have hb := gTm_b h.1.2.2.2.1 h.1.le hV
    refine Rn.ifc_ne (pc1 := 9) (pc2 := 7) rfl rfl rfl (fun h4 => ?_) (fun h4 => absurd h4 (by decide))
    exact Rn.conseq (l_X_sum hd (n + 1) _ _ z _ h9 (by omega) (by omega)) (fun r_ m_ hg => hg.mono hc1)
end T4
end MV2
