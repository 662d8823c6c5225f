/-! THE CLASS: rule(). -/
section DF
variable {m0 : xM} {F I : Nat → Nat → Int32} {L : Nat → Nat → Int64} {R : Nat → Nat → Option Nat} {H : Value} {s w : Nat → Int32} {o : Nat} {gg : Prop}
theorem gBq_r {x : gR} {f : gS → gQ} {z : gS × List xCl4} (h : gBq x f = .inr z) : ∃ a, x = .inr a ∧ f a = .inr z := by
  cases x with
  | inl e => exact nomatch h
  | inr a => exact ⟨a, rfl, h⟩
theorem gEd_r {T : Nat → Int32} {n : Nat} {rd : gS → List xCl4 → gQ} {b : gS} {cl : List xCl4} {z : gS × List xCl4} (h : gEd T n rd b cl = .inr z) : rd (gAd T n b) cl = .inr z ∨ z = (b, cl) := by
  unfold gEd at h
  by_cases h1 : sgE T n b.1 59
  · rw [if_pos h1] at h
    exact Or.inl h
  · rw [if_neg h1] at h
    by_cases h2 : kdE T n b.1 = 0
    · rw [if_pos h2] at h
      exact Or.inr (Sum.inr.inj h).symm
    · rw [if_neg h2] at h
      exact nomatch h
theorem gRd_b {T : Nat → Int32} {n : Nat} (hT : ∀ i, -128 ≤ T i ∧ T i ≤ 127) : ∀ (f : Nat) (s : gS) (cl : List xCl4) (z : gS × List xCl4), s.1 ≤ n → s.2.2.length ≤ s.1 → cl.length ≤ 12 → gRd T n f s cl = .inr z → z.1.2.2.length ≤ n ∧ z.2.length ≤ 12
  | 0, _, _, _, _, _, _, h => nomatch h
  | f + 1, s, cl, z, hp, hb, hc, h => by
    unfold gRd at h
    by_cases hw : wix T s.1 (leE T n s.1) ws1 0 < 0
    · rw [if_pos hw] at h
      exact nomatch h
    · rw [if_neg hw] at h
      by_cases h12 : cl.length = 12
      · rw [if_pos h12] at h
        exact nomatch h
      · rw [if_neg h12] at h
        have k0 : ¬ kdE T n s.1 = 0 := wx_kd hT ws1 (by decide) (fun z => hw (by rw [z]; decide))
        have hx := nx_gt hT hp k0
        have q1 : (gAd T n s).1 = nxE T n s.1 := rfl
        have q2 : (gAd T n s).2.2.length = s.2.2.length := rfl
        obtain ⟨a, e1, e2⟩ := gBq_r h
        have b1 := gSu_b hT (show (gAd T n s).1 ≤ n from nx_le hp) e1
        have hl : ∀ q : xCl4, (cl ++ [q]).length = cl.length + 1 := fun q => by rw [List.length_append]; rfl
        by_cases h3 : wix T a.1 (leE T n a.1) ws3 0 = 0
        · rw [if_pos h3] at e2
          have k3 : ¬ kdE T n a.1 = 0 := wx_kd hT ws3 (by decide) (fun z => by rw [h3] at z; exact absurd z (by decide))
          have hx3 := nx_gt hT b1.2.1 k3
          have q3 : (gAd T n a).1 = nxE T n a.1 := rfl
          have q4 : (gAd T n a).2.2.length = a.2.2.length := rfl
          obtain ⟨b, e3, e4⟩ := gBq_r e2
          have b2 := gTs_b hT (gFa_b hT 10) (show (gAd T n a).1 ≤ n from nx_le b1.2.1) e3
          unfold gB at b2
          rcases gEd_r e4 with e5 | rfl
          · have h9 := nx_gtA (T := T) b2.2.1
            exact gRd_b hT f (gAd T n b) _ z (nx_le b2.2.1) (show b.2.2.length ≤ nxE T n b.1 by omega) (by rw [hl]; omega) e5
          · show b.2.2.length ≤ n ∧ (cl ++ [_]).length ≤ 12
            rw [hl]
            omega
        · rw [if_neg h3] at e2
          rcases gEd_r e2 with e5 | rfl
          · have h9 := nx_gtA (T := T) b1.2.1
            exact gRd_b hT f (gAd T n a) _ z (nx_le b1.2.1) (show a.2.2.length ≤ nxE T n a.1 by omega) (by rw [hl]; omega) e5
          · show a.2.2.length ≤ n ∧ (cl ++ [_]).length ≤ 12
            rw [hl]
            omega
theorem NM_CC {sl : Nat} {f : List xC} (h5 : 50 ≤ m0.1) : NM (CC m0 F I L R H) sl f = CC (NM m0 sl f) F I L R H := by
  refine Prod.ext rfl (Prod.ext rfl (funext fun k => ?_))
  show (if m0.1 ≤ k ∧ k < m0.1 + f.length then f[k - m0.1]? else if k < 50 then ccell F I L R H k else m0.2.2 k) = if k < 50 then ccell F I L R H k else if m0.1 ≤ k ∧ k < m0.1 + f.length then f[k - m0.1]? else m0.2.2 k
  by_cases h : m0.1 ≤ k ∧ k < m0.1 + f.length
  · rw [if_pos h, if_neg (show ¬ k < 50 by omega), if_pos h]
  · rw [if_neg h, if_neg h]
section RY
variable {d j pc len pc' : Nat} {ls st : List Value} {Q : Option Value → xM → Prop}
theorem Rn.ast6 {k v : Nat} {i : Int32} {fs : List Value} (hG : xG j pc = some (.aastore, len)) (hi : i = nI k) (hk : k < 6) (hv : v < xS) (hv2 : (CC m0 F I L R H).2.2 v = some (.inr (6, fs))) (hp : pc + len = pc') (kk : Rn d j pc' ls st (CC m0 F I L (va_up R 6 (va_up (R 6) k (some v))) H) Q) : Rn d j pc ls (.ref v :: .int i :: .ref 6 :: st) (CC m0 F I L R H) Q := by
  subst hi hp
  have hx : ¬ xout (nI k) 6 = true := by
    have := vp_in_nI hk (by omega)
    simpa [xout, vp_in] using this
  have hc : ¬ (4 < 4 ∨ 7 ≤ 4 ∨ xout (nI k) 6 = true) := fun z => z.elim (fun y => by omega) (fun z => z.elim (fun y => by omega) hx)
  have hl : 6 < xS ∧ v < xS := ⟨by decide, hv⟩
  have ha : 6 = xacl 4 := rfl
  refine Rn.step (m' := _) hG (by simp only [xs, x_aast, if_pos hl, CC_R (a := 6) (q := (4, 6)) rfl, if_neg hc, hv2, if_pos ha]; rfl) ?_
  rw [nI_clamp (by omega)]
  have := CC_setR (m0 := m0) (F := F) (I := I) (L := L) (R := R) (H := H) (a := 6) (q := (4, 6)) rfl (by decide) (va_up (R 6) k (some v))
  exact Rn.mm this kk
end RY
/-- what rule() answers and leaves -/
def gRu (m0 : xM) (F I : Nat → Nat → Int32) (L : Nat → Nat → Int64) (R : Nat → Nat → Option Nat) (H : Value) (rn : Nat) (r : Option Value) (m2 : xM) : gQ → Prop
  | .inl e => r = some (.int (-2 - nI e)) ∧ ∃ F1 I1, m2 = CC m0 F1 I1 L R H ∧ cF2 F I F1 I1 ∧ F1 1 1 = 0
  | .inr z => r = some (.int (nI rn)) ∧ z.1.2.2.length ≤ 400 ∧ z.2.length ≤ 12 ∧ ∃ F1 I1 g1 g2, m2 = CC (NM m0 (2 + z.1.2.2.length + 2 * z.2.length) [.inr (6, [.ref (m0.1 + 1), .ref (m0.1 + 2)]), .inl (0, z.1.2.2.length, xints g1), .inl (0, 2 * z.2.length, xints g2)]) F1 I1 L (va_up R 6 (va_up (R 6) rn (some m0.1))) H ∧ (∀ k, k ≠ 0 → k ≠ 1 → k ≠ 3 → F1 k = F k) ∧ F1 0 = upd (F 0) 12 (nI (rn + 1)) ∧ F1 1 1 = 0 ∧ (∀ k, k ≠ 4 → k ≠ 5 → I1 k = I k) ∧ (∀ i, i < z.1.2.2.length → g1 i = nI (csN (z.1.2.2.getD i (0, 0)))) ∧ ∀ c q, z.2[c]? = some q → g2 (2 * c) = nI q.2.1 ∧ g2 (2 * c + 1) = nI q.2.2.2
set_option maxHeartbeats 4000000 in
theorem c_O_rule {d n rn : Nat} (hd : 46 ≤ d) (hS : STR0 m0) (h50 : 50 ≤ m0.1) (hm : m0.1 + 3 ≤ xS) (hrn : F 0 12 = nI rn) (hr6 : rn ≤ 6) (hn : F 1 1 = nI n) (h4 : n ≤ 400) (hT : ∀ i, -128 ≤ I 2 i ∧ I 2 i ≤ 127) : Cl d j_O_rule [.ref 0] (CC m0 F I L R H) (fun r m2 => (¬ rn < 6 → r = some (.int (-1)) ∧ m2 = (CC m0 F I L R H)) ∧ (rn < 6 → gRu m0 F I L R H rn r m2 (gRd (I 2) n 13 (skE (I 2) n 0, 0, []) []))) := by
  show Rn d j_O_rule 0 _ _ _ _
  refine Rn.step (pc' := 1) rfl rfl ?_
  refine Rn.getf (pc' := 4) rfl rfl rfl rfl rfl ?_
  refine Rn.iconst (v := 6) (pc' := 6) rfl (by decide) rfl ?_
  refine Rn.icmp_lt (pc1 := 11) (pc2 := 9) rfl rfl rfl (fun h6 => ?_) (fun h6 => ?_)
  · have hr : rn < 6 := (nI_ltI (a := rn) (b := 6) (by omega) (by omega)).mp (by rw [← hrn]; exact h6)
    refine Rn.step (pc' := 12) rfl rfl ?_
    refine Rn.getf (pc' := 15) rfl rfl rfl rfl rfl ?_
    refine Rn.step (pc' := 16) rfl rfl ?_
    refine Rn.getf (pc' := 19) rfl rfl rfl rfl rfl ?_
    refine Rn.callV (pc' := 22) rfl (by decide) (by omega) rfl rfl rfl (r_read (n := n) (by omega) hS hn h4 hT) (fun r_ m_ hc_ => ?_)
    obtain ⟨F2, I2, rfl, c2, g2⟩ := hc_
    cases ev : gRd (I 2) n 13 (skE (I 2) n 0, 0, []) [] with
    | inl e9 =>
      rw [ev] at g2
      obtain ⟨rfl, g3⟩ := g2
      refine Rn.step (pc' := 23) rfl rfl ?_
      refine Rn.step (pc' := 24) rfl rfl ?_
      refine Rn.getf (pc' := 27) rfl rfl rfl rfl rfl ?_
      refine Rn.iconst (v := 0) (pc' := 28) rfl (by decide) rfl ?_
      refine Rn.cput (pc' := 31) rfl rfl rfl rfl rfl (by decide) rfl ?_
      refine Rn.step (pc' := 32) rfl rfl ?_
      refine Rn.ifc_ne (pc1 := 46) (pc2 := 35) rfl rfl rfl (fun h32 => absurd h32 (fun z => z rfl)) (fun h32 => ?_)
      refine Rn.iconst (v := (-2)) (pc' := 37) rfl (by decide) rfl ?_
      refine Rn.step (pc' := 38) rfl rfl ?_
      refine Rn.getf (pc' := 41) rfl rfl rfl rfl rfl ?_
      refine Rn.getf (pc' := 44) rfl rfl rfl rfl rfl ?_
      refine Rn.isub (pc' := 45) rfl rfl ?_
      rw [show (-2 : Int32) - va_up F2 1 (upd (F2 1) 1 0) 1 2 = -2 - nI e9 from congrArg (fun y => (-2 : Int32) - y) g3]
      exact Rn.iret rfl (rfl) (⟨fun z => absurd hr z, fun _ => ⟨rfl, _, _, rfl, c2.trans ⟨fun k a _ => up_ne _ _ a, fun _ _ _ => rfl⟩, rfl⟩⟩)
    | inr z =>
      rw [ev] at g2
      obtain ⟨rfl, h3, hE, h33⟩ := g2
      have hz := gRd_b hT 13 _ [] z (show skE (I 2) n 0 ≤ n from rnE_le (Nat.zero_le _)) (Nat.zero_le _) (Nat.zero_le _) ev
      have f012 : F2 0 12 = nI rn := by rw [c2.1 0 (by decide) (by decide)]; exact hrn
      refine Rn.step (pc' := 23) rfl rfl ?_
      refine Rn.step (pc' := 24) rfl rfl ?_
      refine Rn.getf (pc' := 27) rfl rfl rfl rfl rfl ?_
      refine Rn.iconst (v := 0) (pc' := 28) rfl (by decide) rfl ?_
      refine Rn.cput (pc' := 31) rfl rfl rfl rfl rfl (by decide) rfl ?_
      refine Rn.step (pc' := 32) rfl rfl ?_
      refine Rn.ifc_ne (pc1 := 46) (pc2 := 35) rfl rfl rfl (fun h32 => ?_) (fun h32 => absurd h32 (by decide))
      refine Rn.step (pc' := 47) rfl rfl ?_
      refine Rn.getf (pc' := 50) rfl rfl rfl rfl rfl ?_
      refine Rn.step (pc' := 51) rfl rfl ?_
      refine Rn.getf (pc' := 54) rfl rfl rfl rfl rfl ?_
      refine Rn.step (pc' := 55) rfl rfl ?_
      refine Rn.getf (pc' := 58) rfl rfl rfl rfl rfl ?_
      refine Rn.callV (pc' := 61) rfl (by decide) (by omega) rfl rfl rfl (r_made (k1 := z.1.2.2.length) (k2 := z.2.length) (by omega) h50 hm (by exact h3.2.2.2.2.2.1) (by exact h33) (by omega) hz.2) (fun r_ m_ hc_ => ?_)
      obtain ⟨rfl, g1, g2, rfl, e1, e2⟩ := hc_
      refine Rn.mm (NM_CC h50) ?_
      refine Rn.ast6 (k := rn) (v := m0.1) (pc' := 62) rfl f012 hr (by omega) ((CC_out h50).trans (NM_at (i := 0) (Nat.zero_lt_succ _))) rfl ?_
      refine Rn.step (pc' := 63) rfl rfl ?_
      refine Rn.step (pc' := 64) rfl rfl ?_
      refine Rn.getf (pc' := 67) rfl rfl rfl rfl rfl ?_
      refine Rn.iconst (v := 1) (pc' := 68) rfl (by decide) rfl ?_
      refine Rn.iadd (pc' := 69) rfl rfl ?_
      rw [show va_up F2 1 (upd (F2 1) 1 0) 0 12 + 1 = nI (rn + 1) from (congrArg (fun y => y + (1 : Int32)) f012).trans (nI_add rn 1)]
      refine Rn.cput (pc' := 72) rfl rfl rfl rfl rfl (by decide) rfl ?_
      refine Rn.step (pc' := 73) rfl rfl ?_
      refine Rn.getf (pc' := 76) rfl rfl rfl rfl rfl ?_
      refine Rn.iconst (v := 1) (pc' := 77) rfl (by decide) rfl ?_
      refine Rn.isub (pc' := 78) rfl rfl ?_
      exact Rn.iret rfl (rfl) (⟨fun y => absurd hr y, fun _ => ⟨congrArg (fun y => some (Value.int y)) (nI_sub (a := rn + 1) (b := 1) (by omega) (by omega)), by omega, hz.2, _, _, g1, g2, rfl, fun k a b c => (up_ne _ _ a).trans ((up_ne _ _ b).trans (c2.1 k b c)), by
            show upd (F2 0) 12 (nI (rn + 1)) = _
            rw [c2.1 0 (by decide) (by decide)], rfl, c2.2, fun i hi => (e1 i hi).trans (h3.2.2.2.2.2.2.2.2 i hi), fun c q hq => by
            have hc2 := (List.getElem?_eq_some_iff.mp hq).1
            exact ⟨(e2 (2 * c) (by omega)).trans (hE c q hq).1, (e2 (2 * c + 1) (by omega)).trans (hE c q hq).2⟩⟩⟩)
  · have hr : ¬ rn < 6 := fun z => h6 (by rw [hrn]; exact (nI_ltI (a := rn) (b := 6) (by omega) (by omega)).mpr z)
    refine Rn.iconst (v := (-1)) (pc' := 10) rfl (by decide) rfl ?_
    exact Rn.iret rfl (rfl) (⟨fun _ => ⟨rfl, rfl⟩, fun z => absurd z hr⟩)
end DF
