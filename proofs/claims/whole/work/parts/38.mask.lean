/-! THE MODEL: acts by hand; hours that are tried. -/
section MA
variable {m0 : xM} {v : Nat → Int32} {dx : Int64} {A : Nat → Nat → Int32} {LA : Nat → Nat → Int64} {s : Nat → Int32}
theorem Rn.ifp_eq {d j pc len : Nat} {ls st : List Value} {m : xM} {Q : Option Value → xM → Prop} {t : Int} {p : Prop} [Decidable p] {pc1 pc2 : Nat} (hG : xG j pc = some (.ifCond .eq t, len)) (h1 : t.toNat = pc1) (h2 : pc + len = pc2) (k1 : ¬ p → Rn d j pc1 ls st m Q) (k2 : p → Rn d j pc2 ls st m Q) : Rn d j pc ls (.int (if p then 1 else 0) :: st) m Q := by
  by_cases c : p
  · exact Rn.ifc_eq hG h1 h2 (fun h => by rw [if_pos c] at h; exact absurd h (by decide)) (fun _ => k2 c)
  · exact Rn.ifc_eq hG h1 h2 (fun _ => k1 c) (fun h => absurd (if_neg c) h)
theorem Rn.ifp_ne {d j pc len : Nat} {ls st : List Value} {m : xM} {Q : Option Value → xM → Prop} {t : Int} {p : Prop} [Decidable p] {pc1 pc2 : Nat} (hG : xG j pc = some (.ifCond .ne t, len)) (h1 : t.toNat = pc1) (h2 : pc + len = pc2) (k1 : p → Rn d j pc1 ls st m Q) (k2 : ¬ p → Rn d j pc2 ls st m Q) : Rn d j pc ls (.int (if p then 1 else 0) :: st) m Q := by
  by_cases c : p
  · exact Rn.ifc_ne hG h1 h2 (fun _ => k1 c) (fun h => by rw [if_pos c] at h; exact absurd h (by decide))
  · exact Rn.ifc_ne hG h1 h2 (fun h => absurd (if_neg c) h) (fun _ => k2 c)
theorem Rn.ifq_eq {d j pc len : Nat} {ls st : List Value} {m : xM} {Q : Option Value → xM → Prop} {t : Int} {p : Prop} [Decidable p] {pc1 pc2 : Nat} (hG : xG j pc = some (.ifCond .eq t, len)) (h1 : t.toNat = pc1) (h2 : pc + len = pc2) (k1 : p → Rn d j pc1 ls st m Q) (k2 : ¬ p → Rn d j pc2 ls st m Q) : Rn d j pc ls (.int (if p then 0 else 1) :: st) m Q := by
  by_cases c : p
  · exact Rn.ifc_eq hG h1 h2 (fun _ => k1 c) (fun h => absurd (if_pos c) h)
  · exact Rn.ifc_eq hG h1 h2 (fun h => by rw [if_neg c] at h; exact absurd h (by decide)) (fun _ => k2 c)
theorem Rn.ifq_ne {d j pc len : Nat} {ls st : List Value} {m : xM} {Q : Option Value → xM → Prop} {t : Int} {p : Prop} [Decidable p] {pc1 pc2 : Nat} (hG : xG j pc = some (.ifCond .ne t, len)) (h1 : t.toNat = pc1) (h2 : pc + len = pc2) (k1 : ¬ p → Rn d j pc1 ls st m Q) (k2 : p → Rn d j pc2 ls st m Q) : Rn d j pc ls (.int (if p then 0 else 1) :: st) m Q := by
  by_cases c : p
  · exact Rn.ifc_ne hG h1 h2 (fun h => absurd (if_pos c) h) (fun _ => k2 c)
  · exact Rn.ifc_ne hG h1 h2 (fun _ => k1 c) (fun h => by rw [if_neg c] at h; exact absurd h (by decide))
theorem i64_le (a b : Int32) : a.toInt64 ≤ b.toInt64 ↔ a ≤ b := by rw [Int64.le_iff_toInt_le, Int32.toInt_toInt64, Int32.toInt_toInt64, Int32.le_iff_toInt_le]
theorem c_M_inI {d : Nat} {m : xM} (x lo hi : Int32) {a b : Int64} (ha : a = lo.toInt64) (hb : b = hi.toInt64) : Cl d j_M_in [.long x.toInt64, .long a, .long b] m (Pi (if lo ≤ x ∧ x ≤ hi then 1 else 0) m) := by
  subst ha hb
  have := c_M_in (d := d) (m := m) x.toInt64 lo.toInt64 hi.toInt64
  simp only [i64_le] at this
  exact this
theorem nI_any (x : Int32) : ∃ n, x = nI n := ⟨x.toBitVec.toNat, by
  show x = Int32.ofNat x.toBitVec.toNat
  apply Int32.toBitVec_inj.mp
  show x.toBitVec = BitVec.ofNat 32 x.toBitVec.toNat
  simp⟩
theorem ME.of (m0 : xM) (v : Nat → Int32) (dx : Int64) (A : Nat → Nat → Int32) (LA : Nat → Nat → Int64) (s : Nat → Int32) : ME m0 v dx A LA s (MS m0 v dx A LA s) := by
  obtain ⟨n, hn⟩ := nI_any (v 18)
  refine ⟨n, LA 58, LA 59, ?_⟩
  show MM _ _ _ _ _ = MM _ _ _ _ _
  rw [← hn, upd_id, up_id LA 59, up_id LA 58]
theorem pCh_z (sec much : Int32) (s : Nat → Int32) (z z' : Int32) : ∀ k, (pCh sec much s z k).1 = (pCh sec much s z' k).1
  | 0 => rfl
  | k + 1 => by rw [pCh_s, pCh_s, pCh_z sec much s z z' k]
theorem mPs_z (E : xEv) (s : Nat → Int32) (z : Int32) : (mPs E s z).1 = (mPs E s 0).1 ∧ (mPs E s z).2.2 = (mPs E s 0).2.2 := by
  refine ⟨?_, rfl⟩
  show pTn E.Bn (pB E s z).1 = pTn E.Bn (pB E s 0).1
  unfold pB
  rw [pCh_z _ _ _ z 0]
theorem mPo_z (E : xEv) (s : Nat → Int32) (z : Int32) : ∀ n, (mPo E s z n).1 = (mPo E s 0 n).1 ∧ (mPo E s z n).2.2 = (mPo E s 0 n).2.2
  | 0 => ⟨rfl, rfl⟩
  | n + 1 => by
    obtain ⟨h1, h2⟩ := mPo_z E s z n
    rw [mPo_s, mPo_s]
    dsimp only
    rw [(mPs_z E (mPo E s z n).1 _).1, (mPs_z E (mPo E s 0 n).1 (mPo E s 0 n).2.1).1, (mPs_z E (mPo E s z n).1 _).2, (mPs_z E (mPo E s 0 n).1 (mPo E s 0 n).2.1).2, h1, h2]
    exact ⟨rfl, rfl⟩
/-- an hour, hours: what is said then, what is earned -/
abbrev hS (E : xEv) (s : Nat → Int32) : Nat → Int32 := (mPs E s 0).1
abbrev hP (E : xEv) (s : Nat → Int32) : Int32 := (mPs E s 0).2.2
abbrev oS (E : xEv) (s : Nat → Int32) (n : Nat) : Nat → Int32 := (mPo E s 0 n).1
abbrev oP (E : xEv) (s : Nat → Int32) (n : Nat) : Int32 := (mPo E s 0 n).2.2
/-- the model's memory, but for what no later call reads -/
def MZ (m0 : xM) (v : Nat → Int32) (dx : Int64) (A : Nat → Nat → Int32) (s : Nat → Int32) (m : xM) : Prop := ∃ (z x : Int32) (kp : Nat → Int32) (LA : Nat → Nat → Int64), m = MS m0 (upd (upd v 25 z) 18 x) dx (va_up A 62 kp) LA s
theorem MZ.of (m0 : xM) (v : Nat → Int32) (dx : Int64) (A : Nat → Nat → Int32) (LA : Nat → Nat → Int64) (s : Nat → Int32) : MZ m0 v dx A s (MS m0 v dx A LA s) := ⟨v 25, v 18, A 62, LA, by rw [up_id, upd_id, upd_id]⟩
theorem u2518 (v : Nat → Int32) (z x z' x' : Int32) : upd (upd (upd (upd v 25 z) 18 x) 25 z') 18 x' = upd (upd v 25 z') 18 x' := by
  rw [upd_cm (upd v 25 z) (show 18 ≠ 25 by decide), upd_u, upd_u]
theorem g_on {d P Bn Fn Wn N : Nat} {rl : xRl} (hl : WL P Bn Fn Wn s) (hw : WD P Bn s) (hv : v 24 = 0 ∨ v 24 = 1) (hru : mRu v A rl) (hd : 6 ≤ d) (hN : N < 1000) : Cl d j_M_passesOn [.ref 50, .int (nI N)] (MS m0 v dx A LA s) (fun r m2 => r = some (.int (oP (evf v rl Bn Fn Wn) s N)) ∧ ∃ z x LA', m2 = MS m0 (upd (upd v 25 z) 18 x) dx A LA' (oS (evf v rl Bn Fn Wn) s N)) := by
  refine (c_M_passesOn hl hw hv hru hd hN (ME.of m0 v dx A LA s)).conseq ?_
  rintro r m2 ⟨rfl, n, f, g, rfl⟩
  obtain ⟨e1, e2⟩ := mPo_z (evf v rl Bn Fn Wn) s (v 25) N
  exact ⟨by rw [e2], _, _, _, by rw [e1]⟩
theorem g_pass {d P Bn Fn Wn : Nat} {rl : xRl} (hl : WL P Bn Fn Wn s) (hw : WD P Bn s) (hv : v 24 = 0 ∨ v 24 = 1) (hru : mRu v A rl) (hd : 5 ≤ d) : Cl d j_M_passes [.ref 50] (MS m0 v dx A LA s) (fun r m2 => r = some (.int (hP (evf v rl Bn Fn Wn) s)) ∧ ∃ x LA', m2 = MS m0 (upd (upd v 25 (mPs (evf v rl Bn Fn Wn) s (v 25)).2.1) 18 x) dx A LA' (hS (evf v rl Bn Fn Wn) s)) := by
  refine (c_M_passes hl hw hv hru hd (ME.of m0 v dx A LA s)).conseq ?_
  rintro r m2 ⟨rfl, n, f, g, rfl⟩
  obtain ⟨e1, e2⟩ := mPs_z (evf v rl Bn Fn Wn) s (v 25)
  exact ⟨by rw [e2], _, _, by rw [e1]⟩
theorem mRu.a {rl : xRl} {v v' : Nat → Int32} {A A' : Nat → Nat → Int32} (h : mRu v A rl) (h1 : v' 21 = v 21) (h2 : A' 52 = A 52) (h3 : A' 54 = A 54) (h4 : A' 55 = A 55) : mRu v' A' rl := by
  rcases h with h | ⟨r, hr, e, hR⟩
  · exact Or.inl (by rw [h1]; exact h)
  · refine Or.inr ⟨r, hr, by rw [h1]; exact e, ?_⟩
    unfold RuW ClW at hR ⊢
    rw [h2, h3, h4]
    exact hR
theorem c_M_putsOn {d : Nat} (k : Nat) (b : Int32) (hk : k < 2) : Cl d j_M_putsOn [.ref 50, .int (nI k), .int b] (MS m0 v dx A LA s) (Pv (MS m0 v dx A LA (upd s (46 + 3 * k) b))) := by
  show Rn d j_M_putsOn 0 _ _ _ _
  refine Rn.step (pc' := 1) rfl rfl ?_
  refine Rn.getf (pc' := 4) rfl rfl rfl rfl rfl ?_
  refine Rn.iconst (v := 46) (pc' := 6) rfl (by decide) rfl ?_
  refine Rn.iconst (v := 3) (pc' := 7) rfl (by decide) rfl ?_
  refine Rn.step (pc' := 8) rfl rfl ?_
  refine Rn.imul (pc' := 9) rfl rfl ?_
  refine Rn.iadd (pc' := 10) rfl rfl ?_
  refine Rn.step (pc' := 11) rfl rfl ?_
  refine Rn.sast (k := 46 + 3 * k) (pc' := 12) rfl rfl (by simp only [nI_lit, nI_add, pk_mul]) (by omega) (by decide) rfl ?_
  exact Rn.retv rfl (rfl)
theorem c_M_takesOff {d : Nat} (k : Nat) (p : Int32) (hk : k < 2) : Cl d j_M_takesOff [.ref 50, .int (nI k), .int p] (MS m0 v dx A LA s) (Pv (MS m0 v dx A LA (upd (upd s (46 + 3 * k) (-1)) (46 + 3 * k + 1) p))) := by
  show Rn d j_M_takesOff 0 _ _ _ _
  refine Rn.step (pc' := 1) rfl rfl ?_
  refine Rn.getf (pc' := 4) rfl rfl rfl rfl rfl ?_
  refine Rn.iconst (v := 46) (pc' := 6) rfl (by decide) rfl ?_
  refine Rn.iconst (v := 3) (pc' := 7) rfl (by decide) rfl ?_
  refine Rn.step (pc' := 8) rfl rfl ?_
  refine Rn.imul (pc' := 9) rfl rfl ?_
  refine Rn.iadd (pc' := 10) rfl rfl ?_
  refine Rn.iconst (v := (-1)) (pc' := 11) rfl (by decide) rfl ?_
  refine Rn.sast (k := 46 + 3 * k) (pc' := 12) rfl rfl (by simp only [nI_lit, nI_add, pk_mul]) (by omega) (by decide) rfl ?_
  refine Rn.step (pc' := 13) rfl rfl ?_
  refine Rn.getf (pc' := 16) rfl rfl rfl rfl rfl ?_
  refine Rn.iconst (v := 46) (pc' := 18) rfl (by decide) rfl ?_
  refine Rn.iconst (v := 3) (pc' := 19) rfl (by decide) rfl ?_
  refine Rn.step (pc' := 20) rfl rfl ?_
  refine Rn.imul (pc' := 21) rfl rfl ?_
  refine Rn.iadd (pc' := 22) rfl rfl ?_
  refine Rn.iconst (v := 1) (pc' := 23) rfl (by decide) rfl ?_
  refine Rn.iadd (pc' := 24) rfl rfl ?_
  refine Rn.step (pc' := 25) rfl rfl ?_
  refine Rn.sast (k := 46 + 3 * k + 1) (pc' := 26) rfl rfl (by simp only [nI_lit, nI_add, pk_mul]) (by omega) (by decide) rfl ?_
  exact Rn.retv rfl (rfl)
def lnd (s : Nat → Int32) (b : Int32) : Nat → Int32 := if b < 0 then upd (upd (upd (upd s 46 (-1)) 47 0) 49 (-1)) 50 0 else upd (upd s 46 b) 49 b

theorem c_M_lendsTo {d : Nat} (hd : 1 ≤ d) (b : Int32) : Cl d j_M_lendsTo [.ref 50, .int b] (MS m0 v dx A LA s) (Pv (MS m0 v dx A LA (lnd s b))) := by
  show Rn d j_M_lendsTo 0 _ _ _ _
  unfold lnd
  by_cases hb : b < 0
  · rw [if_pos hb]
    refine Rn.iconst (v := 0) (pc' := 1) rfl (by decide) rfl ?_
    refine Rn.step (pc' := 2) rfl rfl ?_
    refine Rn.step (pc' := 3) rfl rfl ?_
    refine Rn.iconst (v := 2) (pc' := 4) rfl (by decide) rfl ?_
    refine Rn.icmp_ge (pc1 := 32) (pc2 := 7) rfl rfl rfl (fun h4 => absurd h4 (show ¬ (2 : Int32) ≤ 0 from by decide)) (fun h4 => ?_)
    refine Rn.step (pc' := 8) rfl rfl ?_
    refine Rn.ifc_ge (pc1 := 20) (pc2 := 11) rfl rfl rfl (fun h8 => absurd h8 (Int32.not_le.mpr hb)) (fun h8 => ?_)
    refine Rn.step (pc' := 12) rfl rfl ?_
    refine Rn.step (pc' := 13) rfl rfl ?_
    refine Rn.iconst (v := 0) (pc' := 14) rfl (by decide) rfl ?_
    refine Rn.vv (pc' := 17) rfl (by decide) (by omega) rfl rfl rfl (c_M_takesOff 0 0 (by omega)) ?_
    refine Rn.step (pc' := 26) rfl rfl ?_
    refine Rn.step (pc' := 29) rfl rfl ?_
    refine Rn.step (pc' := 2) rfl rfl ?_
    refine Rn.step (pc' := 3) rfl rfl ?_
    refine Rn.iconst (v := 2) (pc' := 4) rfl (by decide) rfl ?_
    refine Rn.icmp_ge (pc1 := 32) (pc2 := 7) rfl rfl rfl (fun h4 => absurd h4 (show ¬ (2 : Int32) ≤ 1 from by decide)) (fun h4 => ?_)
    refine Rn.step (pc' := 8) rfl rfl ?_
    refine Rn.ifc_ge (pc1 := 20) (pc2 := 11) rfl rfl rfl (fun h8 => absurd h8 (Int32.not_le.mpr hb)) (fun h8 => ?_)
    refine Rn.step (pc' := 12) rfl rfl ?_
    refine Rn.step (pc' := 13) rfl rfl ?_
    refine Rn.iconst (v := 0) (pc' := 14) rfl (by decide) rfl ?_
    refine Rn.vv (pc' := 17) rfl (by decide) (by omega) rfl rfl rfl (c_M_takesOff 1 0 (by omega)) ?_
    refine Rn.step (pc' := 26) rfl rfl ?_
    refine Rn.step (pc' := 29) rfl rfl ?_
    refine Rn.step (pc' := 2) rfl rfl ?_
    refine Rn.step (pc' := 3) rfl rfl ?_
    refine Rn.iconst (v := 2) (pc' := 4) rfl (by decide) rfl ?_
    refine Rn.icmp_ge (pc1 := 32) (pc2 := 7) rfl rfl rfl (fun h4 => ?_) (fun h4 => absurd (show (2 : Int32) ≤ 2 from by decide) h4)
    exact Rn.retv rfl (rfl)
  · rw [if_neg hb]
    refine Rn.iconst (v := 0) (pc' := 1) rfl (by decide) rfl ?_
    refine Rn.step (pc' := 2) rfl rfl ?_
    refine Rn.step (pc' := 3) rfl rfl ?_
    refine Rn.iconst (v := 2) (pc' := 4) rfl (by decide) rfl ?_
    refine Rn.icmp_ge (pc1 := 32) (pc2 := 7) rfl rfl rfl (fun h4 => absurd h4 (show ¬ (2 : Int32) ≤ 0 from by decide)) (fun h4 => ?_)
    refine Rn.step (pc' := 8) rfl rfl ?_
    refine Rn.ifc_ge (pc1 := 20) (pc2 := 11) rfl rfl rfl (fun h8 => ?_) (fun h8 => absurd (Int32.not_lt.mp hb) h8)
    refine Rn.step (pc' := 21) rfl rfl ?_
    refine Rn.step (pc' := 22) rfl rfl ?_
    refine Rn.step (pc' := 23) rfl rfl ?_
    refine Rn.vv (pc' := 26) rfl (by decide) (by omega) rfl rfl rfl (c_M_putsOn 0 b (by omega)) ?_
    refine Rn.step (pc' := 29) rfl rfl ?_
    refine Rn.step (pc' := 2) rfl rfl ?_
    refine Rn.step (pc' := 3) rfl rfl ?_
    refine Rn.iconst (v := 2) (pc' := 4) rfl (by decide) rfl ?_
    refine Rn.icmp_ge (pc1 := 32) (pc2 := 7) rfl rfl rfl (fun h4 => absurd h4 (show ¬ (2 : Int32) ≤ 1 from by decide)) (fun h4 => ?_)
    refine Rn.step (pc' := 8) rfl rfl ?_
    refine Rn.ifc_ge (pc1 := 20) (pc2 := 11) rfl rfl rfl (fun h8 => ?_) (fun h8 => absurd (Int32.not_lt.mp hb) h8)
    refine Rn.step (pc' := 21) rfl rfl ?_
    refine Rn.step (pc' := 22) rfl rfl ?_
    refine Rn.step (pc' := 23) rfl rfl ?_
    refine Rn.vv (pc' := 26) rfl (by decide) (by omega) rfl rfl rfl (c_M_putsOn 1 b (by omega)) ?_
    refine Rn.step (pc' := 29) rfl rfl ?_
    refine Rn.step (pc' := 2) rfl rfl ?_
    refine Rn.step (pc' := 3) rfl rfl ?_
    refine Rn.iconst (v := 2) (pc' := 4) rfl (by decide) rfl ?_
    refine Rn.icmp_ge (pc1 := 32) (pc2 := 7) rfl rfl rfl (fun h4 => ?_) (fun h4 => absurd (show (2 : Int32) ≤ 2 from by decide) h4)
    exact Rn.retv rfl (rfl)
theorem lnd_fx (s : Nat → Int32) (b : Int32) : FX s (lnd s b) := by
  unfold lnd
  split
  · exact (FX.up s _ _ (by unfold fxc; omega)).trans ((FX.up _ _ _ (by unfold fxc; omega)).trans ((FX.up _ _ _ (by unfold fxc; omega)).trans (FX.up _ _ _ (by unfold fxc; omega))))
  · exact (FX.up s _ _ (by unfold fxc; omega)).trans (FX.up _ _ _ (by unfold fxc; omega))
theorem WD.wrs {P Bn : Nat} {s t : Nat → Int32} (g : WD P Bn s) (hB : Bn ≤ 6) (h : ∀ i, i ≠ 46 → i ≠ 49 → i ≠ 47 → i ≠ 50 → t i = s i) (h2 : ∀ k, k < 2 → t (46 + 3 * k) = -1 ∨ ∃ c, c < Bn ∧ t (46 + 3 * k) = nI c) : WD P Bn t := by
  refine ⟨?_, fun c hc => ?_, fun c hc => ?_, fun c hc => ?_, h2⟩
  · rw [h 5 (by omega) (by omega) (by omega) (by omega)]
    exact g.hr
  · rw [h _ (by omega) (by omega) (by omega) (by omega)]
    exact g.pl c hc
  · rw [h _ (by omega) (by omega) (by omega) (by omega), h _ (by omega) (by omega) (by omega) (by omega)]
    exact g.ch c hc
  · rw [h _ (by omega) (by omega) (by omega) (by omega)]
    exact g.fz c hc
theorem lnd_wd {P Bn : Nat} {s : Nat → Int32} (g : WD P Bn s) (hB : Bn ≤ 6) {b : Int32} (hb : b = -1 ∨ ∃ c, c < Bn ∧ b = nI c) : WD P Bn (lnd s b) := by
  refine g.wrs hB (fun i h1 h2 h3 h4 => ?_) (fun k hk => ?_)
  · unfold lnd
    split
    · rw [upd_n _ _ h4, upd_n _ _ h2, upd_n _ _ h3, upd_n _ _ h1]
    · rw [upd_n _ _ h2, upd_n _ _ h1]
  · rcases hb with rfl | ⟨c, hc, rfl⟩
    · left
      unfold lnd
      rw [if_pos (by decide)]
      rcases (show k = 0 ∨ k = 1 by omega) with rfl | rfl
      · rfl
      · rfl
    · right
      refine ⟨c, hc, ?_⟩
      unfold lnd
      rw [if_neg (nI_pos (by omega))]
      rcases (show k = 0 ∨ k = 1 by omega) with rfl | rfl
      · rfl
      · rfl
theorem c_M_paysLent {d P Bn Fn Wn N : Nat} {rl : xRl} (hl : WL P Bn Fn Wn s) (hw : WD P Bn s) (hv : v 24 = 0 ∨ v 24 = 1) (hru : mRu v A rl) (hd : 7 ≤ d) (hN : N < 1000) {b : Int32} (hb : b = -1 ∨ ∃ c, c < Bn ∧ b = nI c) {m : xM} (hm : MZ m0 v dx A s m) : Cl d j_M_paysLent [.ref 50, .int b, .int (nI N)] m (fun r m2 => r = some (.int (oP (evf v rl Bn Fn Wn) (lnd s b) N)) ∧ MZ m0 v dx A s m2) := by
  show Rn d j_M_paysLent 0 _ _ _ _
  obtain ⟨z, x, kp, LA, rfl⟩ := hm
  refine Rn.step (pc' := 1) rfl rfl ?_
  refine Rn.vv (pc' := 4) rfl (by decide) (by omega) rfl rfl rfl (c_M_keeps) ?_
  refine Rn.step (pc' := 5) rfl rfl ?_
  refine Rn.step (pc' := 6) rfl rfl ?_
  refine Rn.vv (pc' := 9) rfl (by decide) (by omega) rfl rfl rfl (c_M_lendsTo (by omega) b) ?_
  refine Rn.step (pc' := 10) rfl rfl ?_
  refine Rn.step (pc' := 11) rfl rfl ?_
  refine Rn.callV (pc' := 14) rfl (by decide) (by omega) rfl rfl rfl (g_on (hl.fx (lnd_fx s b)) (lnd_wd hw hl.b6 hb) hv (hru.a rfl rfl rfl rfl) (by omega) hN) (fun r_ m_ hc_ => ?_)
  obtain ⟨rfl, z2, x2, LA2, rfl⟩ := hc_
  refine Rn.step (pc' := 15) rfl rfl ?_
  refine Rn.step (pc' := 16) rfl rfl ?_
  refine Rn.vv (pc' := 19) rfl (by decide) (by omega) rfl rfl rfl (c_M_laysBack) ?_
  refine Rn.step (pc' := 20) rfl rfl ?_
  exact Rn.iret rfl (rfl) (⟨rfl, z2, x2, cpf s kp 52, LA2, by
      rw [u2518, up_up, va_up_self, va_up_self]
      exact congrArg _ (cpf_back ((lnd_fx s b).trans (mPo_w (E := evf v rl Bn Fn Wn) 0 (hl.fx (lnd_fx s b)) (lnd_wd hw hl.b6 hb) N).1))⟩)
end MA
