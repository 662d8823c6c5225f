/-! THE CLASS: relays, searched. -/
section CN
variable {m0 : xM} {F I : Nat → Nat → Int32} {L : Nat → Nat → Int64} {R : Nat → Nat → Option Nat} {H : Value} {s w : Nat → Int32} {o : Nat} {gg : Prop}
theorem Rn.caald {d j pc len pc' : Nat} {ls st : List Value} {Q : Option Value → xM → Prop} {a n t k v : Nat} {i : Int32} (hG : xG j pc = some (.aaload, len)) (ha : cRef a = some (t, n)) (ht : 4 ≤ t ∧ t < 7) (hi : i = nI k) (hk : k < n) (hn : n < 1000) (hv : c30 R a k = some v) (hl : v < xS) (hp : pc + len = pc') (kk : Rn d j pc' ls (.ref v :: st) (CC m0 F I L R H) Q) : Rn d j pc ls (.int i :: .ref a :: st) (CC m0 F I L R H) Q := by
  subst hi hp
  have h1 := cRef_in ha
  have hx : ¬ xout (nI k) n = true := by
    have := vp_in_nI hk (by omega)
    simpa [xout, vp_in] using this
  have hc : ¬ (t < 4 ∨ 7 ≤ t ∨ xS ≤ a ∨ xout (nI k) n = true) := fun z => z.elim (fun y => by omega) (fun z => z.elim (fun y => by omega) (fun z => z.elim (fun y => by unfold xS at y; omega) hx))
  refine Rn.step hG (by simp only [xs, x_aald, CC_R ha, if_neg hc, nI_clamp (show k < 2 ^ 31 by omega), hv, if_pos hl]) kk
/-- what the relays have found -/
def SA (N Bn : Nat) (acc : rAcc) (F I : Nat → Nat → Int32) : Prop := (acc.1 = none ∧ F 29 2 = 0) ∨ (∃ c, acc.1 = some c ∧ c < 2 ^ 31 ∧ F 29 2 = 1 ∧ F 29 5 = acc.2.1 ∧ F 29 3 = acc.2.2 ∧ ∀ i, i < N → I 32 i = nI (nmd Bn N c i) - 1)
def RD (Bn D c : Nat) (r : Nat → Int32) : Prop := ∀ i, i < D → r i = nI (nmd Bn D c i) - 1
def sF (F F1 : Nat → Nat → Int32) : Prop := (∀ k, k ≠ 14 → k ≠ 29 → F1 k = F k) ∧ F1 14 4 = F 14 4
def sI (D : Nat) (I I1 : Nat → Nat → Int32) : Prop := (∀ k, k ≠ 31 → k ≠ 32 → (∀ i, D < i → i ≤ 4 → k ≠ 33 + 2 * i + 1) → I1 k = I k) ∧ ∀ i, i < D → I1 31 i = I 31 i
theorem sF.rfl (F : Nat → Nat → Int32) : sF F F := ⟨fun _ _ _ => Eq.refl _, Eq.refl _⟩
theorem sI.rfl (D : Nat) (I : Nat → Nat → Int32) : sI D I I := ⟨fun _ _ _ _ => Eq.refl _, fun _ _ => Eq.refl _⟩
theorem sF.trans {F G K : Nat → Nat → Int32} (h : sF F G) (g : sF G K) : sF F K := ⟨fun k a b => (g.1 k a b).trans (h.1 k a b), g.2.trans h.2⟩
theorem sI.trans {D : Nat} {F G K : Nat → Nat → Int32} (h : sI D F G) (g : sI D G K) : sI D F K := ⟨fun k a b c => (g.1 k a b c).trans (h.1 k a b c), fun i hi => (g.2 i hi).trans (h.2 i hi)⟩
theorem sI.dn {D : Nat} {F G : Nat → Nat → Int32} (h : sI (D + 1) F G) : sI D F G := ⟨fun k a b c => h.1 k a b (fun i hi => c i (by omega)), fun i hi => h.2 i (by omega)⟩
theorem HB.r {P D : Nat} {E : xEv} {t : Nat → Int32} {F I F1 I1 : Nat → Nat → Int32} {H : Value} {m0 : xM} (h : HB P E t F I H m0) (hF : sF F F1) (hI : sI D I I1) : HB P E t F1 I1 H m0 := by
  refine ⟨?_, h.wl, h.wx, h.wd, hF.2.trans h.se, h.fd, h.ru⟩
  unfold LR
  rw [hF.1 17 (by omega) (by omega), hI.1 18 (by omega) (by omega) (by omega), hI.1 19 (by omega) (by omega) (by omega), hI.1 20 (by omega) (by omega) (by omega), hI.1 21 (by omega) (by omega) (by omega), hI.1 22 (by omega) (by omega) (by omega)]
  exact h.lr
theorem c_W_allChillC {d Bn : Nat} (hd : 1 ≤ d) (ho : isW o) (hr : WR gg Bn s (I (o + 1))) (hB : Bn ≤ 6) : Cl d j_World_allChill [.ref o] (CC m0 F I L R H) (Pi (mCs s Bn) (CC m0 F I L R H)) := by
  have h := c_W_allChill (d := d) (m0 := m0) (F := F) (I := I) (L := L) (R := R) (H := H) hd ho hr hB
  rw [CW_id] at h
  exact h
theorem c_R_judge {d N Bn c : Nat} {acc : rAcc} (e ch : Int32) (hd : 1 ≤ d) (hN : N ≤ 4) (hc : c < 2 ^ 31) (hsa : SA N Bn acc F I) (hrd : RD Bn N c (I 31)) : Cl d j_Relays_judge [.ref 29, .int ch, .int e] (CC m0 F I L R H) (fun r m2 => r = none ∧ ∃ F1 I1, m2 = CC m0 F1 I1 L R H ∧ (∀ k, k ≠ 29 → F1 k = F k) ∧ (∀ k, k ≠ 32 → I1 k = I k) ∧ SA N Bn (jdg acc c e ch) F1 I1) := by
  have hsa2 := hsa
  show Rn d j_Relays_judge 0 _ _ _ _
  rcases hsa2 with ⟨g1, g2⟩ | ⟨c2, g1, g0, g2, g4, g5, g6⟩
  · refine Rn.step (pc' := 1) rfl rfl ?_
    refine Rn.getf (pc' := 4) rfl rfl rfl rfl rfl ?_
    refine Rn.ifc_eq (pc1 := 31) (pc2 := 7) rfl rfl rfl (fun h4 => ?_) (fun h4 => absurd (g2) h4)
    refine Rn.step (pc' := 32) rfl rfl ?_
    refine Rn.iconst (v := 1) (pc' := 33) rfl (by decide) rfl ?_
    refine Rn.cputz (pc' := 36) rfl rfl rfl rfl rfl (by decide) (Or.inr rfl) rfl ?_
    refine Rn.step (pc' := 37) rfl rfl ?_
    refine Rn.step (pc' := 38) rfl rfl ?_
    refine Rn.cput (pc' := 41) rfl rfl rfl rfl rfl (by decide) rfl ?_
    refine Rn.step (pc' := 42) rfl rfl ?_
    refine Rn.step (pc' := 43) rfl rfl ?_
    refine Rn.cput (pc' := 46) rfl rfl rfl rfl rfl (by decide) rfl ?_
    refine Rn.step (pc' := 47) rfl rfl ?_
    refine Rn.getf (pc' := 50) rfl rfl rfl rfl rfl ?_
    refine Rn.iconst (v := 0) (pc' := 51) rfl (by decide) rfl ?_
    refine Rn.step (pc' := 52) rfl rfl ?_
    refine Rn.getf (pc' := 55) rfl rfl rfl rfl rfl ?_
    refine Rn.iconst (v := 0) (pc' := 56) rfl (by decide) rfl ?_
    refine Rn.iconst (v := 4) (pc' := 57) rfl (by decide) rfl ?_
    refine Rn.ccopy (a0 := 31) (a := 32) (sp := 0) (dp := 0) (n := 4) (pc' := 60) rfl (by omega) rfl rfl rfl rfl rfl (by omega) (Nat.zero_le 8) rfl ?_
    exact Rn.vret rfl (⟨rfl, _, _, rfl, fun k hk => by rw [up_ne _ _ hk, up_ne _ _ hk, up_ne _ _ hk], fun k hk => up_ne I _ hk, by
        unfold jdg
        rw [if_neg (fun z => z.1 (by rw [g1]; decide))]
        refine Or.inr ⟨c, rfl, hc, rfl, rfl, rfl, fun i hi => ?_⟩
        rw [va_up_self, pk_cpy_in (by omega) (by omega), Nat.zero_add]
        exact hrd i hi⟩)
  · refine Rn.step (pc' := 1) rfl rfl ?_
    refine Rn.getf (pc' := 4) rfl rfl rfl rfl rfl ?_
    refine Rn.ifc_eq (pc1 := 31) (pc2 := 7) rfl rfl rfl (fun h4 => absurd h4 (by rw [g2]; decide)) (fun h4 => ?_)
    refine Rn.step (pc' := 8) rfl rfl ?_
    refine Rn.step (pc' := 9) rfl rfl ?_
    refine Rn.getf (pc' := 12) rfl rfl rfl rfl rfl ?_
    refine Rn.icmp_gt (pc1 := 31) (pc2 := 15) rfl rfl rfl (fun h12 => ?_) (fun h12 => ?_)
    · refine Rn.step (pc' := 32) rfl rfl ?_
      refine Rn.iconst (v := 1) (pc' := 33) rfl (by decide) rfl ?_
      refine Rn.cputz (pc' := 36) rfl rfl rfl rfl rfl (by decide) (Or.inr rfl) rfl ?_
      refine Rn.step (pc' := 37) rfl rfl ?_
      refine Rn.step (pc' := 38) rfl rfl ?_
      refine Rn.cput (pc' := 41) rfl rfl rfl rfl rfl (by decide) rfl ?_
      refine Rn.step (pc' := 42) rfl rfl ?_
      refine Rn.step (pc' := 43) rfl rfl ?_
      refine Rn.cput (pc' := 46) rfl rfl rfl rfl rfl (by decide) rfl ?_
      refine Rn.step (pc' := 47) rfl rfl ?_
      refine Rn.getf (pc' := 50) rfl rfl rfl rfl rfl ?_
      refine Rn.iconst (v := 0) (pc' := 51) rfl (by decide) rfl ?_
      refine Rn.step (pc' := 52) rfl rfl ?_
      refine Rn.getf (pc' := 55) rfl rfl rfl rfl rfl ?_
      refine Rn.iconst (v := 0) (pc' := 56) rfl (by decide) rfl ?_
      refine Rn.iconst (v := 4) (pc' := 57) rfl (by decide) rfl ?_
      refine Rn.ccopy (a0 := 31) (a := 32) (sp := 0) (dp := 0) (n := 4) (pc' := 60) rfl (by omega) rfl rfl rfl rfl rfl (by omega) (Nat.zero_le 8) rfl ?_
      exact Rn.vret rfl (⟨rfl, _, _, rfl, fun k hk => by rw [up_ne _ _ hk, up_ne _ _ hk, up_ne _ _ hk], fun k hk => up_ne I _ hk, by
          unfold jdg
          rw [if_neg (fun z => z.2.elim (fun y => by rw [← g4] at y; rw [Int32.lt_iff_toInt_lt] at y h12; omega) (fun y => by rw [← g4] at y; have h := h12; rw [y.1, Int32.lt_iff_toInt_lt] at h; omega))]
          refine Or.inr ⟨c, rfl, hc, rfl, rfl, rfl, fun i hi => ?_⟩
          rw [va_up_self, pk_cpy_in (by omega) (by omega), Nat.zero_add]
          exact hrd i hi⟩)
    · refine Rn.step (pc' := 16) rfl rfl ?_
      refine Rn.step (pc' := 17) rfl rfl ?_
      refine Rn.getf (pc' := 20) rfl rfl rfl rfl rfl ?_
      refine Rn.icmp_ne (pc1 := 60) (pc2 := 23) rfl rfl rfl (fun h20 => ?_) (fun h20 => ?_)
      · exact Rn.vret rfl (⟨rfl, F, I, rfl, fun _ _ => rfl, fun _ _ => rfl, by
            unfold jdg
            rw [if_pos (⟨by rw [g1]; exact eO_some g0, Or.inl (by rw [← g4]; rw [Int32.lt_iff_toInt_lt] at h12 ⊢; have : e.toInt ≠ (F 29 5).toInt := fun y => h20 (Int32.toInt_inj.mp y); omega)⟩)]
            exact hsa⟩)
      · refine Rn.step (pc' := 24) rfl rfl ?_
        refine Rn.step (pc' := 25) rfl rfl ?_
        refine Rn.getf (pc' := 28) rfl rfl rfl rfl rfl ?_
        refine Rn.icmp_ge (pc1 := 60) (pc2 := 31) rfl rfl rfl (fun h28 => ?_) (fun h28 => ?_)
        · exact Rn.vret rfl (⟨rfl, F, I, rfl, fun _ _ => rfl, fun _ _ => rfl, by
              unfold jdg
              rw [if_pos (⟨by rw [g1]; exact eO_some g0, Or.inr ⟨h20.trans g4, by rw [← g5]; exact Int32.not_lt.mpr h28⟩⟩)]
              exact hsa⟩)
        · refine Rn.step (pc' := 32) rfl rfl ?_
          refine Rn.iconst (v := 1) (pc' := 33) rfl (by decide) rfl ?_
          refine Rn.cputz (pc' := 36) rfl rfl rfl rfl rfl (by decide) (Or.inr rfl) rfl ?_
          refine Rn.step (pc' := 37) rfl rfl ?_
          refine Rn.step (pc' := 38) rfl rfl ?_
          refine Rn.cput (pc' := 41) rfl rfl rfl rfl rfl (by decide) rfl ?_
          refine Rn.step (pc' := 42) rfl rfl ?_
          refine Rn.step (pc' := 43) rfl rfl ?_
          refine Rn.cput (pc' := 46) rfl rfl rfl rfl rfl (by decide) rfl ?_
          refine Rn.step (pc' := 47) rfl rfl ?_
          refine Rn.getf (pc' := 50) rfl rfl rfl rfl rfl ?_
          refine Rn.iconst (v := 0) (pc' := 51) rfl (by decide) rfl ?_
          refine Rn.step (pc' := 52) rfl rfl ?_
          refine Rn.getf (pc' := 55) rfl rfl rfl rfl rfl ?_
          refine Rn.iconst (v := 0) (pc' := 56) rfl (by decide) rfl ?_
          refine Rn.iconst (v := 4) (pc' := 57) rfl (by decide) rfl ?_
          refine Rn.ccopy (a0 := 31) (a := 32) (sp := 0) (dp := 0) (n := 4) (pc' := 60) rfl (by omega) rfl rfl rfl rfl rfl (by omega) (Nat.zero_le 8) rfl ?_
          exact Rn.vret rfl (⟨rfl, _, _, rfl, fun k hk => by rw [up_ne _ _ hk, up_ne _ _ hk, up_ne _ _ hk], fun k hk => up_ne I _ hk, by
              unfold jdg
              rw [if_neg (fun z => z.2.elim (fun y => by rw [← g4, ← h20, Int32.lt_iff_toInt_lt] at y; omega) (fun y => y.2 (by rw [← g5]; exact Int32.not_le.mp h28)))]
              refine Or.inr ⟨c, rfl, hc, rfl, rfl, rfl, fun i hi => ?_⟩
              rw [va_up_self, pk_cpy_in (by omega) (by omega), Nat.zero_add]
              exact hrd i hi⟩)
theorem tkb_1 (u : Nat → Int32) (k b : Nat) : tkb u k b 1 = u 1 := by
  unfold tkb
  split
  · exact upd_n _ _ (by omega)
  · rfl
theorem tkb_2 (u : Nat → Int32) {k b c : Nat} : tkb u k b (10 + 6 * c + 2) = u (10 + 6 * c + 2) := by
  unfold tkb
  split
  · by_cases e : 10 + 6 * c + 2 = 46 + 3 * k
    · exact absurd e (by omega)
    · exact upd_n _ _ e
  · rfl
theorem nmd_o {Bn D c q i : Nat} (hi : i < D) (hq : q < Bn + 1) : nmd Bn (D + 1) (c * (Bn + 1) + q) i = nmd Bn D c i := by
  unfold nmd
  rw [show D + 1 - 1 - i = (D - 1 - i) + 1 by omega, Nat.pow_succ, Nat.mul_comm ((Bn + 1) ^ (D - 1 - i)), ← Nat.div_div_eq_div_mul, Nat.mul_comm c, Nat.mul_add_div (by omega), Nat.div_eq_of_lt hq, Nat.add_zero]
theorem nmd_n {Bn D c q : Nat} (hq : q < Bn + 1) : nmd Bn (D + 1) (c * (Bn + 1) + q) D = q := by
  unfold nmd
  rw [show D + 1 - 1 - D = 0 by omega, Nat.pow_zero, Nat.div_one, Nat.mul_comm c, Nat.mul_add_mod, Nat.mod_eq_of_lt hq]
theorem tkn_6 (t : Nat → Int32) (q : Nat) : tkn t q 6 = t 6 := by
  unfold tkn
  split
  · rfl
  · unfold tk2
    have h : ∀ (u : Nat → Int32) (k b : Nat), tkb u k b 6 = u 6 := fun u k b => by
      unfold tkb
      split
      · exact upd_n _ _ (by omega)
      · rfl
    rw [h, h]
set_option maxHeartbeats 4000000 in
theorem f_S90 {d P N D c q r : Nat} {E : xEv} {e : Int32} {acc : rAcc} {t : Nat → Int32} {F1 I1 : Nat → Nat → Int32} {L1 : Nat → Nat → Int64} {Q : Option Value → xM → Prop} (hfd : E.fd = 0) (hh : HB P E t F I H m0) (hD : DB t (700 + D)) (hN : D + (r + 1) = N) (hN4 : N ≤ 4) (hq : q ≤ E.Bn) (hrd : RD E.Bn D c (I 31)) (hcb : (c + 1) * (E.Bn + 1) ^ (r + 1) ≤ 2 ^ 31) (hd : 8 ≤ d) (hrec : ∀ (D c : Nat) (e : Int32) (acc : rAcc) (t : Nat → Int32) (F I : Nat → Nat → Int32) (L : Nat → Nat → Int64), D + r = N → HB P E t F I H m0 → WR gg E.Bn t (I (33 + 2 * D + 1)) → DB t (700 + D) → SA N E.Bn acc F I → RD E.Bn D c (I 31) → (c + 1) * (E.Bn + 1) ^ r ≤ 2 ^ 31 → Cl (d - 1) j_Relays_search [.ref 29, .ref 14, .int (nI N), .int (nI D), .int e] (CC m0 F I L R H) (fun r_ m2 => r_ = none ∧ ∃ F1 I1 L1, m2 = CC m0 F1 I1 L1 R H ∧ sF F F1 ∧ sI D I I1 ∧ SA N E.Bn (tr2 E (r) t e c acc) F1 I1)) (sf1 : sF F F1) (si1 : sI D I I1) (hsa1 : SA N E.Bn (trq2 (tr2 E r) E t e c q acc) F1 I1) (hrw : WR gg E.Bn (tkn t q) w) (hkk : ∀ m, (∃ F1 I1 L1, m = CC m0 F1 I1 L1 R H ∧ sF F F1 ∧ sI D I I1 ∧ SA N E.Bn (tr2 E r (hS E (tkn t q)) (e + hP E (tkn t q)) (c * (E.Bn + 1) + q) (trq2 (tr2 E r) E t e c q acc)) F1 I1) → Rn d j_Relays_search 117 [.ref 29, .ref 14, .int (nI N), .int (nI D), .int e, .ref (33 + 2 * (D + 1)), .int (nI q - 1)] [] m Q) : Rn d j_Relays_search 90 [.ref 29, .ref 14, .int (nI N), .int (nI D), .int e, .ref (33 + 2 * (D + 1)), .int (nI q - 1)] [] (CWm m0 F1 I1 L1 R H (33 + 2 * (D + 1)) w) Q := by
  have ho : isW (33 + 2 * (D + 1)) := by unfold isW; omega
  have hb6 := hh.wl.b6
  have htk := tkn_w hh.wd hb6 hq
  have si31 : sI D I (va_up I1 31 (upd (I1 31) D (nI q - 1))) := ⟨fun k h1 h2 h3 => (up_ne I1 _ h1).trans (si1.1 k h1 h2 h3), fun i hi => by rw [va_up_self, upd_n _ _ (by omega)]; exact si1.2 i hi⟩
  have hh3 : HB P E (tkn t q) F1 (va_up I1 31 (upd (I1 31) D (nI q - 1))) H m0 := (hh.r sf1 si31).to htk.1 htk.2
  have hD3 : ∃ D2, D2 < 999 ∧ tkn t q 6 = nI D2 := by
    obtain ⟨D2, z1, z2⟩ := hD
    exact ⟨D2, by omega, by rw [tkn_6]; exact z2⟩
  have hps := mPs_w (E := E) 0 hh3.wl hh3.wd
  have hD4 : DB (hS E (tkn t q)) (700 + (D + 1)) := by
    obtain ⟨D2, z1, z2⟩ := hD
    have : DB (tkn t q) (700 + D) := ⟨D2, z1, by rw [tkn_6]; exact z2⟩
    exact this.hour hh3.wl
  have sf2 : sF F1 (fzF F1 (mPs E (tkn t q) (F1 14 5)).2.1) := ⟨fun k h1 _ => fzF_n F1 _ h1, rfl⟩
  have si2 : ∀ {w2 : Nat → Int32}, sI D I1 (va_up (va_up I1 31 (upd (I1 31) D (nI q - 1))) (33 + 2 * (D + 1) + 1) w2) := fun {w2} => ⟨fun k h1 h2 h3 => (up_ne _ w2 (h3 (D + 1) (by omega) (by omega))).trans (up_ne I1 _ h1), fun i hi => by rw [up_ne _ w2 (show 31 ≠ 33 + 2 * (D + 1) + 1 by omega), va_up_self, upd_n _ _ (by omega)]⟩
  have hh4 : ∀ {w2 : Nat → Int32}, HB P E (hS E (tkn t q)) (fzF F1 (mPs E (tkn t q) (F1 14 5)).2.1) (va_up (va_up I1 31 (upd (I1 31) D (nI q - 1))) (33 + 2 * (D + 1) + 1) w2) H m0 := fun {w2} => (hh3.to hps.1 hps.2).r (D := D) (I := va_up I1 31 (upd (I1 31) D (nI q - 1))) sf2 ⟨fun k h1 h2 h3 => up_ne _ w2 (h3 (D + 1) (by omega) (by omega)), fun i hi => by rw [up_ne _ w2 (show 31 ≠ 33 + 2 * (D + 1) + 1 by omega)]⟩
  have hsa4 : ∀ {w2 : Nat → Int32}, SA N E.Bn (trq2 (tr2 E r) E t e c q acc) (fzF F1 (mPs E (tkn t q) (F1 14 5)).2.1) (va_up (va_up I1 31 (upd (I1 31) D (nI q - 1))) (33 + 2 * (D + 1) + 1) w2) := fun {w2} => by
    unfold SA
    rw [fzF_n F1 _ (show 29 ≠ 14 by decide), up_ne _ w2 (show 32 ≠ 33 + 2 * (D + 1) + 1 by omega), up_ne I1 _ (show 32 ≠ 31 by decide)]
    exact hsa1
  have hrd4 : ∀ {w2 : Nat → Int32}, RD E.Bn (D + 1) (c * (E.Bn + 1) + q) ((va_up (va_up I1 31 (upd (I1 31) D (nI q - 1))) (33 + 2 * (D + 1) + 1) w2) 31) := fun {w2} i hi => by
    rw [up_ne _ w2 (show 31 ≠ 33 + 2 * (D + 1) + 1 by omega), va_up_self]
    by_cases ei : i = D
    · subst ei
      rw [upd_s, nmd_n (by omega)]
    · rw [upd_n _ _ ei, nmd_o (by omega) (by omega), si1.2 i (by omega)]
      exact hrd i (by omega)
  refine Rn.step (pc' := 91) rfl rfl ?_
  refine Rn.getf (pc' := 94) rfl rfl rfl rfl rfl ?_
  refine Rn.step (pc' := 95) rfl rfl ?_
  refine Rn.step (pc' := 97) rfl rfl ?_
  refine Rn.cast (a := 31) (n := 4) (k := D) (pc' := 98) rfl rfl rfl (by omega) (by decide) rfl ?_
  rw [up_ne I1 _ (show 31 ≠ 33 + 2 * (D + 1) + 1 by omega)]
  refine Rn.mm (m2 := CWm m0 F1 (va_up I1 31 (upd (I1 31) D (nI q - 1))) L1 R H (33 + 2 * (D + 1)) w) (by
    unfold CWm
    rw [up_cm _ (show 33 + 2 * (D + 1) + 1 ≠ 31 by omega)]) ?_
  refine Rn.step (pc' := 99) rfl rfl ?_
  refine Rn.step (pc' := 100) rfl rfl ?_
  refine Rn.step (pc' := 101) rfl rfl ?_
  refine Rn.step (pc' := 102) rfl rfl ?_
  refine Rn.iconst (v := 1) (pc' := 103) rfl (by decide) rfl ?_
  refine Rn.iadd (pc' := 104) rfl rfl ?_
  refine Rn.step (pc' := 106) rfl rfl ?_
  refine Rn.step (pc' := 107) rfl rfl ?_
  refine Rn.step (pc' := 109) rfl rfl ?_
  refine Rn.iconst (v := 0) (pc' := 110) rfl (by decide) rfl ?_
  refine Rn.callV (pc' := 113) rfl (by decide) (by omega) rfl rfl rfl (hfd ▸ c_H_pass (o := 33 + 2 * (D + 1)) ho hh3 hrw hD3 (by omega)) (fun r_ m_ hc_ => ?_)
  obtain ⟨rfl, L2, w2, rfl, hr2⟩ := hc_
  have e1 : nI D + 1 = nI (D + 1) := nI_1 D
  refine Rn.iadd (pc' := 114) rfl rfl ?_
  refine Rn.callV (pc' := 117) rfl (by decide) (by omega) rfl rfl rfl (e1 ▸ hrec (D + 1) (c * (E.Bn + 1) + q) (e + hP E (tkn t q)) (trq2 (tr2 E r) E t e c q acc) (hS E (tkn t q)) _ _ L2 (by omega) hh4 (by rw [va_up_self]; exact hr2) hD4 hsa4 hrd4 (cB_le (by omega) hcb)) (fun r_ m_ hc_ => ?_)
  obtain ⟨rfl, F3, I3, L3, rfl, sf3, si3, sa3⟩ := hc_
  have si9 : sI D I I3 := si1.trans (si2.trans si3.dn)
  exact hkk _ ⟨F3, I3, L3, rfl, sf1.trans (sf2.trans sf3), si9, sa3⟩
set_option maxHeartbeats 4000000 in
theorem l_S {d P N D c r : Nat} {E : xEv} {e : Int32} {acc : rAcc} {t : Nat → Int32} (hfd : E.fd = 0) (hh : HB P E t F I H m0) (hr : WR gg E.Bn t (I (33 + 2 * D + 1))) (hD : DB t (700 + D)) (hN : D + (r + 1) = N) (hN4 : N ≤ 4) (hrd : RD E.Bn D c (I 31)) (hcb : (c + 1) * (E.Bn + 1) ^ (r + 1) ≤ 2 ^ 31) (hd : 8 ≤ d) (hrec : ∀ (D c : Nat) (e : Int32) (acc : rAcc) (t : Nat → Int32) (F I : Nat → Nat → Int32) (L : Nat → Nat → Int64), D + r = N → HB P E t F I H m0 → WR gg E.Bn t (I (33 + 2 * D + 1)) → DB t (700 + D) → SA N E.Bn acc F I → RD E.Bn D c (I 31) → (c + 1) * (E.Bn + 1) ^ r ≤ 2 ^ 31 → Cl (d - 1) j_Relays_search [.ref 29, .ref 14, .int (nI N), .int (nI D), .int e] (CC m0 F I L R H) (fun r_ m2 => r_ = none ∧ ∃ F1 I1 L1, m2 = CC m0 F1 I1 L1 R H ∧ sF F F1 ∧ sI D I I1 ∧ SA N E.Bn (tr2 E (r) t e c acc) F1 I1)) (k : Nat) (hk : k ≤ E.Bn + 1) {m : xM} (hm : ∃ F1 I1 L1, m = CC m0 F1 I1 L1 R H ∧ sF F F1 ∧ sI D I I1 ∧ SA N E.Bn (trq2 (tr2 E r) E t e c (k) acc) F1 I1) : Rn d j_Relays_search 39 [.ref 29, .ref 14, .int (nI N), .int (nI D), .int e, .ref (33 + 2 * (D + 1)), .int (nI k - 1)] [] m (fun r_ m2 => r_ = none ∧ ∃ F1 I1 L1, m2 = CC m0 F1 I1 L1 R H ∧ sF F F1 ∧ sI D I I1 ∧ SA N E.Bn (tr2 E (r + 1) t e c acc) F1 I1) := by
  obtain ⟨F1, I1, L1, rfl, sf1, si1, sa1⟩ := hm
  have ho : isW (33 + 2 * (D + 1)) := by unfold isW; omega
  have ho2 : isW (33 + 2 * D) := by unfold isW; omega
  have hb6 := hh.wl.b6
  have hrD : ∀ {J : Nat → Nat → Int32}, sI D I J → WR gg E.Bn t (J (33 + 2 * D + 1)) := fun {J} hJ => by rw [hJ.1 _ (by omega) (by omega) (fun i h1 h2 => by omega)]; exact hr
  have siw : ∀ w2, sI D I (va_up I1 (33 + 2 * (D + 1) + 1) w2) := fun w2 => ⟨fun k h1 h2 h3 => (up_ne I1 w2 (h3 (D + 1) (by omega) (by omega))).trans (si1.1 k h1 h2 h3), fun i hi => by rw [up_ne I1 w2 (show 31 ≠ 33 + 2 * (D + 1) + 1 by omega)]; exact si1.2 i hi⟩
  have saw : ∀ w2, SA N E.Bn (trq2 (tr2 E r) E t e c k acc) F1 (va_up I1 (33 + 2 * (D + 1) + 1) w2) := fun w2 => by
    unfold SA
    rw [up_ne I1 w2 (show 32 ≠ 33 + 2 * (D + 1) + 1 by omega)]
    exact sa1
  cases k with
  | zero =>
    refine Rn.ls7 (b6 := .int (-1)) rfl rfl rfl rfl rfl rfl (congrArg Value.int nI_0m) ?_
    refine Rn.step (pc' := 41) rfl rfl ?_
    refine Rn.step (pc' := 42) rfl rfl ?_
    refine Rn.getf (pc' := 45) rfl rfl rfl rfl rfl ?_
    refine Rn.getf (pc' := 48) rfl rfl rfl rfl rfl ?_
    refine Rn.icmp_ge (pc1 := 123) (pc2 := 51) rfl rfl rfl (fun h48 => absurd h48 (by rw [(hh.r sf1 si1).lr.b, hh.wl.b]; exact fun z => Int32.not_lt.mpr z (Int32.lt_of_lt_of_le neg1 (nI_pos' (by omega))))) (fun h48 => ?_)
    refine Rn.step (pc' := 53) rfl rfl ?_
    refine Rn.step (pc' := 54) rfl rfl ?_
    refine Rn.getf (pc' := 57) rfl rfl rfl rfl rfl ?_
    refine Rn.step (pc' := 58) rfl rfl ?_
    refine Rn.caald (a := 30) (t := 6) (n := 5) (k := D) (v := 33 + 2 * D) (pc' := 59) rfl rfl (by omega) (rfl) (by omega) (by omega) (if_pos (by omega)) (by unfold xS; omega) rfl ?_
    refine Rn.vv (pc' := 62) rfl (by decide) (by omega) rfl (rcvW ho rfl) rfl (c_W_copyFrom (o := 33 + 2 * (D + 1)) (o2 := 33 + 2 * D) (by omega) ho ho2) ?_
    refine Rn.step (pc' := 64) rfl rfl ?_
    refine Rn.iconst (v := (-1)) (pc' := 65) rfl (by decide) rfl ?_
    refine Rn.icmp_eq (pc1 := 90) (pc2 := 68) rfl rfl rfl (fun h65 => ?_) (fun h65 => absurd (rfl) h65)
    refine Rn.ls7 (b6 := .int (nI 0 - 1)) rfl rfl rfl rfl rfl rfl (congrArg Value.int nI_0m.symm) ?_
    refine f_S90 hfd hh hD hN hN4 (q := 0) (by omega) hrd hcb (by omega) hrec sf1 si1 sa1 (by rw [show tkn t 0 = t from if_pos rfl]; exact WR.cpy (hrD si1) hb6) (fun m2 hm2 => ?_)
    refine Rn.step (pc' := 120) rfl rfl ?_
    refine Rn.step (pc' := 39) rfl rfl ?_
    exact Rn.ls7 rfl rfl rfl rfl rfl rfl (congrArg Value.int (show nI 0 - 1 + Int32.ofInt 1 = nI 1 - 1 by decide)) (l_S hfd hh hr hD hN hN4 hrd hcb hd hrec (1) (by omega) (by rw [trq2_s, if_pos (Or.inl rfl)]; exact hm2))
  | succ k =>
    refine Rn.ls7 (b6 := .int (nI k)) rfl rfl rfl rfl rfl rfl (congrArg Value.int (nI_pred k)) ?_
    refine Rn.step (pc' := 41) rfl rfl ?_
    refine Rn.step (pc' := 42) rfl rfl ?_
    refine Rn.getf (pc' := 45) rfl rfl rfl rfl rfl ?_
    refine Rn.getf (pc' := 48) rfl rfl rfl rfl rfl ?_
    refine Rn.icmp_ge (pc1 := 123) (pc2 := 51) rfl rfl rfl (fun h48 => ?_) (fun h48 => ?_)
    · obtain rfl := nI_up (k := k) (N := E.Bn) (by omega) (by omega) (by rw [(hh.r sf1 si1).lr.b, hh.wl.b] at h48; exact h48)
      exact Rn.vret rfl (⟨rfl, F1, I1, L1, rfl, sf1, si1, sa1⟩)
    · have hk2 := nI_dn (k := k) (N := E.Bn) (by omega) (by omega) (by rw [(hh.r sf1 si1).lr.b, hh.wl.b] at h48; exact h48)
      refine Rn.step (pc' := 53) rfl rfl ?_
      refine Rn.step (pc' := 54) rfl rfl ?_
      refine Rn.getf (pc' := 57) rfl rfl rfl rfl rfl ?_
      refine Rn.step (pc' := 58) rfl rfl ?_
      refine Rn.caald (a := 30) (t := 6) (n := 5) (k := D) (v := 33 + 2 * D) (pc' := 59) rfl rfl (by omega) (rfl) (by omega) (by omega) (if_pos (by omega)) (by unfold xS; omega) rfl ?_
      refine Rn.vv (pc' := 62) rfl (by decide) (by omega) rfl (rcvW ho rfl) rfl (c_W_copyFrom (o := 33 + 2 * (D + 1)) (o2 := 33 + 2 * D) (by omega) ho ho2) ?_
      refine Rn.step (pc' := 64) rfl rfl ?_
      refine Rn.iconst (v := (-1)) (pc' := 65) rfl (by decide) rfl ?_
      refine Rn.icmp_eq (pc1 := 90) (pc2 := 68) rfl rfl rfl (fun h65 => absurd h65 (fun z => absurd (show nI k < 0 by rw [z]; exact neg1) (nI_pos (by omega)))) (fun h65 => ?_)
      refine Rn.step (pc' := 69) rfl rfl ?_
      refine Rn.getf (pc' := 72) rfl rfl rfl rfl rfl ?_
      refine Rn.step (pc' := 74) rfl rfl ?_
      refine Rn.vi (pc' := 77) rfl (by decide) (by omega) rfl rfl rfl (c_C_fits ((hh.r sf1 si1).lr.v ho _) hh.wl.b6 hk2) ?_
      refine Rn.ifq_eq (pc1 := 117) (pc2 := 80) rfl rfl rfl (fun h77 => ?_) (fun h77 => ?_)
      · refine Rn.step (pc' := 120) rfl rfl ?_
        refine Rn.step (pc' := 39) rfl rfl ?_
        exact Rn.ls7 rfl rfl rfl rfl rfl rfl (congrArg Value.int ((nI_i1 k).trans (nI_pred (k + 1)).symm)) (l_S hfd hh hr hD hN hN4 hrd hcb hd hrec (k + 2) (by omega) ⟨F1, _, L1, rfl, sf1, siw _, by
          rw [trq2_s, if_neg (fun z => z.elim (fun y => by omega) (fun y => y.elim (fun x => x.2.1 h77) (fun x => x.2.1 (by rw [tkb_1, tkb_2]; exact h77))))]
          exact saw _⟩)
      · refine Rn.step (pc' := 82) rfl rfl ?_
        refine Rn.step (pc' := 84) rfl rfl ?_
        refine Rn.callS (pc' := 87) rfl (by decide) (by omega) rfl rfl (c_R_takes (by omega) ho (WR.cpy (hrD si1) hb6) hh.wd hb6 hk2 h77) (fun r_ m_ hc_ => ?_)
        obtain ⟨rfl, w2, rfl, hr2⟩ := hc_
        refine Rn.ifp_eq (pc1 := 117) (pc2 := 90) rfl rfl rfl (fun h87 => ?_) (fun h87 => ?_)
        · refine Rn.step (pc' := 120) rfl rfl ?_
          refine Rn.step (pc' := 39) rfl rfl ?_
          exact Rn.ls7 rfl rfl rfl rfl rfl rfl (congrArg Value.int ((nI_i1 k).trans (nI_pred (k + 1)).symm)) (l_S hfd hh hr hD hN hN4 hrd hcb hd hrec (k + 2) (by omega) ⟨F1, _, L1, rfl, sf1, siw _, by
            rw [trq2_s, if_neg (fun z => z.elim (fun y => by omega) (fun y => h87 y))]
            exact saw _⟩)
        · refine Rn.ls7 (b6 := .int (nI (k + 1) - 1)) rfl rfl rfl rfl rfl rfl (congrArg Value.int (nI_pred k).symm) ?_
          refine f_S90 hfd hh hD hN hN4 (q := k + 1) (by omega) hrd hcb (by omega) hrec sf1 si1 sa1 hr2 (fun m2 hm2 => ?_)
          refine Rn.step (pc' := 120) rfl rfl ?_
          refine Rn.step (pc' := 39) rfl rfl ?_
          exact Rn.ls7 rfl rfl rfl rfl rfl rfl (congrArg Value.int (by rw [nI_pred, nI_i1, nI_pred])) (l_S hfd hh hr hD hN hN4 hrd hcb hd hrec (k + 2) (by omega) (by rw [trq2_s, if_pos (show k + 1 = 0 ∨ mv t (k + 1 - 1) from Or.inr h87)]; exact hm2))
termination_by E.Bn + 1 - k
theorem c_S {P N : Nat} {E : xEv} (hfd : E.fd = 0) (hN4 : N ≤ 4) : ∀ r d : Nat, 8 + r ≤ d → ∀ (D c : Nat) (e : Int32) (acc : rAcc) (t : Nat → Int32) (F I : Nat → Nat → Int32) (L : Nat → Nat → Int64), D + r = N → HB P E t F I H m0 → WR gg E.Bn t (I (33 + 2 * D + 1)) → DB t (700 + D) → SA N E.Bn acc F I → RD E.Bn D c (I 31) → (c + 1) * (E.Bn + 1) ^ r ≤ 2 ^ 31 → Cl (d) j_Relays_search [.ref 29, .ref 14, .int (nI N), .int (nI D), .int e] (CC m0 F I L R H) (fun r_ m2 => r_ = none ∧ ∃ F1 I1 L1, m2 = CC m0 F1 I1 L1 R H ∧ sF F F1 ∧ sI D I I1 ∧ SA N E.Bn (tr2 E (r) t e c acc) F1 I1) := by
  intro r
  induction r with
  | zero =>
    intro d hd D c e acc t F I L hN hh hr hD hsa hrd hcb
    have ho : isW (33 + 2 * D) := by unfold isW; omega
    show Rn d j_Relays_search 0 _ _ _ _
    refine Rn.step (pc' := 1) rfl rfl ?_
    refine Rn.step (pc' := 2) rfl rfl ?_
    refine Rn.icmp_ge (pc1 := 10) (pc2 := 5) rfl rfl rfl (fun h2 => ?_) (fun h2 => absurd ((nI_leI (by omega) (by omega)).mpr (by omega)) h2)
    refine Rn.step (pc' := 11) rfl rfl ?_
    refine Rn.step (pc' := 12) rfl rfl ?_
    refine Rn.getf (pc' := 15) rfl rfl rfl rfl rfl ?_
    refine Rn.step (pc' := 16) rfl rfl ?_
    refine Rn.caald (a := 30) (t := 6) (n := 5) (k := D) (v := 33 + 2 * D) (pc' := 17) rfl rfl (by omega) (rfl) (by omega) (by omega) (if_pos (by omega)) (by unfold xS; omega) rfl ?_
    refine Rn.vi (pc' := 20) rfl (by decide) (by omega) rfl (rcvW ho rfl) rfl (c_W_allChillC (by omega) ho hr hh.wl.b6) ?_
    refine Rn.step (pc' := 22) rfl rfl ?_
    refine Rn.callV (pc' := 25) rfl (by decide) (by omega) rfl rfl rfl (c_R_judge (N := N) (Bn := E.Bn) (c := c) (acc := acc) e (mCs t E.Bn) (by omega) hN4 (by rw [Nat.pow_zero] at hcb; omega) hsa (by rw [← hN]; exact hrd)) (fun r_ m_ hc_ => ?_)
    obtain ⟨rfl, F1, I1, rfl, f1, i1, sa1⟩ := hc_
    exact Rn.vret rfl (⟨rfl, F1, I1, L, rfl, ⟨fun k h1 h2 => f1 k h2, congrFun (f1 14 (by decide)) 4⟩, ⟨fun k h1 h2 _ => i1 k h2, fun i _ => congrFun (i1 31 (by decide)) i⟩, sa1⟩)
  | succ r ih =>
    intro d hd D c e acc t F I L hN hh hr hD hsa hrd hcb
    show Rn d j_Relays_search 0 _ _ _ _
    refine Rn.step (pc' := 1) rfl rfl ?_
    refine Rn.step (pc' := 2) rfl rfl ?_
    refine Rn.icmp_ge (pc1 := 10) (pc2 := 5) rfl rfl rfl (fun h2 => absurd h2 (fun z => absurd ((nI_leI (by omega) (by omega)).mp z) (by omega))) (fun h2 => ?_)
    refine Rn.step (pc' := 6) rfl rfl ?_
    refine Rn.iconst (v := 4) (pc' := 7) rfl (by decide) rfl ?_
    refine Rn.icmp_lt (pc1 := 26) (pc2 := 10) rfl rfl rfl (fun h7 => ?_) (fun h7 => absurd ((nI_ltI (a := D) (b := 4) (by omega) (by omega)).mpr (by omega)) h7)
    refine Rn.step (pc' := 27) rfl rfl ?_
    refine Rn.getf (pc' := 30) rfl rfl rfl rfl rfl ?_
    refine Rn.step (pc' := 31) rfl rfl ?_
    refine Rn.iconst (v := 1) (pc' := 32) rfl (by decide) rfl ?_
    refine Rn.iadd (pc' := 33) rfl rfl ?_
    refine Rn.caald (a := 30) (t := 6) (n := 5) (k := D + 1) (v := 33 + 2 * (D + 1)) (pc' := 34) rfl rfl (by omega) (nI_1 D) (by omega) (by omega) (if_pos (by omega)) (by unfold xS; omega) rfl ?_
    refine Rn.step (pc' := 36) rfl rfl ?_
    refine Rn.iconst (v := (-1)) (pc' := 37) rfl (by decide) rfl ?_
    refine Rn.step (pc' := 39) rfl rfl ?_
    refine Rn.ls7 (b6 := .int (nI 0 - 1)) rfl rfl rfl rfl rfl rfl (congrArg Value.int nI_0m.symm) ?_
    exact l_S hfd hh hr hD hN hN4 hrd hcb (by omega) (fun D c e acc t F I L a1 a2 a3 a4 a5 a6 a7 => ih (d - 1) (by omega) D c e acc t F I L a1 a2 a3 a4 a5 a6 a7) 0 (by omega) ⟨F, I, L, rfl, sF.rfl F, sI.rfl D I, hsa⟩
end CN
