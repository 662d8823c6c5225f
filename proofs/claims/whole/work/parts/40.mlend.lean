/-! THE MODEL: ahead, lend, worth, bids. -/
section MC
variable {m0 : xM} {v : Nat → Int32} {dx : Int64} {A : Nat → Nat → Int32} {LA : Nat → Nat → Int64} {s : Nat → Int32}
def scr (i : Nat) : Prop := i = 18 ∨ i = 25 ∨ i = 29 ∨ i = 30 ∨ i = 31 ∨ i = 32
def sca (k : Nat) : Prop := k = 60 ∨ k = 62 ∨ k = 63 ∨ k = 64
/-- the model's memory, but for all that no later call reads -/
def MG (m0 : xM) (v : Nat → Int32) (A : Nat → Nat → Int32) (s : Nat → Int32) (m : xM) : Prop := ∃ v' dx' A' LA', m = MS m0 v' dx' A' LA' s ∧ (∀ i, ¬ scr i → v' i = v i) ∧ ∀ k, ¬ sca k → A' k = A k
theorem MG.rfl (m0 : xM) (v : Nat → Int32) (dx : Int64) (A : Nat → Nat → Int32) (LA : Nat → Nat → Int64) (s : Nat → Int32) : MG m0 v A s (MS m0 v dx A LA s) := ⟨v, dx, A, LA, Eq.refl _, fun _ _ => Eq.refl _, fun _ _ => Eq.refl _⟩
theorem MZ.mg {v1 : Nat → Int32} {A1 : Nat → Nat → Int32} {m : xM} (h : MZ m0 v1 dx A1 s m) (h1 : ∀ i, ¬ scr i → v1 i = v i) (h2 : ∀ k, ¬ sca k → A1 k = A k) : MG m0 v A s m := by
  obtain ⟨z, x, kp, LA, e⟩ := h
  refine ⟨_, dx, _, LA, e, fun i hi => ?_, fun k hk => ?_⟩
  · rw [upd_n _ _ (fun e => hi (by unfold scr; omega)), upd_n _ _ (fun e => hi (by unfold scr; omega))]
    exact h1 i hi
  · have : k ≠ 62 := fun e => hk (by unfold sca; omega)
    simp only [va_up, if_neg this]
    exact h2 k hk
theorem MZ.mg0 {m : xM} (h : MZ m0 v dx A s m) : MG m0 v A s m := h.mg (fun _ _ => Eq.refl _) (fun _ _ => Eq.refl _)
theorem vs_up {v v1 : Nat → Int32} (h : ∀ i, ¬ scr i → v1 i = v i) {a : Nat} (ha : scr a) (x : Int32) : ∀ i, ¬ scr i → upd v1 a x i = v i := fun i hi => by
  have hne : i ≠ a := fun e => hi (by rw [e]; exact ha)
  rw [upd_n _ _ hne]
  exact h i hi
theorem MZ.put {z x : Int32} {kp : Nat → Int32} {i : Nat} {a : Int32} (h1 : i ≠ 25) (h2 : i ≠ 18) : MZ m0 (upd v i a) dx A s (MS m0 (upd (upd (upd v 25 z) 18 x) i a) dx (va_up A 62 kp) LA s) := ⟨z, x, kp, LA, by rw [upd_cm (upd v 25 z) h2.symm, upd_cm v h1.symm]⟩
theorem xN {x lo hi : Int32} {n : Nat} (hlo : 0 ≤ lo) (hM : hi.toInt = n) (h : lo ≤ x ∧ x ≤ hi) : ∃ k, k ≤ n ∧ x = nI k := nI_of2 hM (Int32.not_lt.mpr (Int32.le_trans hlo h.1)) h.2
def gAh (s : Nat → Int32) (x n y : Int32) : Prop := ¬ (¬ x < 0 ∧ ¬ s 2 ≤ x) ∨ ¬ (0 ≤ n ∧ n ≤ 96) ∨ ¬ (0 ≤ y ∧ y ≤ 2)
def aAh (t : Nat → Int32) (b : Nat) (y : Int32) : Int32 := if y = 0 then t (10 + 6 * b + 0) else if y = 1 then t (10 + 6 * b + 3) else t (10 + 6 * b + 5)
theorem c_M_ahead {d P Bn Fn Wn : Nat} {rl : xRl} (hi : LI P Bn Fn Wn s) (hv : v 24 = 0 ∨ v 24 = 1) (hru : mRu v A rl) (hd : 7 ≤ d) (x n y : Int32) : Cl d j_M_ahead [.ref 50, .int x, .int n, .int y] (MS m0 v dx A LA s) (fun r m2 => (gAh s x n y → r = some (.int (-1)) ∧ MG m0 v A s m2) ∧ (¬ gAh s x n y → r = some (.int (aAh (oS (evf v rl Bn Fn Wn) s n.toNatClampNeg) x.toNatClampNeg y)) ∧ MG m0 v A s m2)) := by
  show Rn d j_M_ahead 0 _ _ _ _
  refine Rn.step (pc' := 1) rfl rfl ?_
  refine Rn.step (pc' := 2) rfl rfl ?_
  refine Rn.vi (pc' := 5) rfl (by decide) (by omega) rfl rfl rfl (c_M_isBrother x) ?_
  refine Rn.ifp_eq (pc1 := 32) (pc2 := 8) rfl rfl rfl (fun h5 => ?_) (fun h5 => ?_)
  · refine Rn.iconst (v := (-1)) (pc' := 33) rfl (by decide) rfl ?_
    exact Rn.iret rfl (rfl) (⟨fun _ => ⟨rfl, MG.rfl _ _ _ _ _ _⟩, fun hg => absurd (Or.inl h5) hg⟩)
  · refine Rn.step (pc' := 9) rfl rfl ?_
    refine Rn.i2l (pc' := 10) rfl rfl ?_
    refine Rn.ldc2 (v := 0) (pc' := 11) rfl (by decide) rfl ?_
    refine Rn.ldc2 (v := 96) (pc' := 14) rfl (by decide) rfl ?_
    refine Rn.si (pc' := 17) rfl (by decide) (by omega) rfl rfl (c_M_inI n 0 96 rfl rfl) ?_
    refine Rn.ifp_eq (pc1 := 32) (pc2 := 20) rfl rfl rfl (fun h17 => ?_) (fun h17 => ?_)
    · refine Rn.iconst (v := (-1)) (pc' := 33) rfl (by decide) rfl ?_
      exact Rn.iret rfl (rfl) (⟨fun _ => ⟨rfl, MG.rfl _ _ _ _ _ _⟩, fun hg => absurd (Or.inr (Or.inl h17)) hg⟩)
    · refine Rn.step (pc' := 21) rfl rfl ?_
      refine Rn.i2l (pc' := 22) rfl rfl ?_
      refine Rn.ldc2 (v := 0) (pc' := 23) rfl (by decide) rfl ?_
      refine Rn.ldc2 (v := 2) (pc' := 26) rfl (by decide) rfl ?_
      refine Rn.si (pc' := 29) rfl (by decide) (by omega) rfl rfl (c_M_inI y 0 2 rfl rfl) ?_
      refine Rn.ifp_ne (pc1 := 34) (pc2 := 32) rfl rfl rfl (fun h29 => ?_) (fun h29 => ?_)
      · obtain ⟨h0, hl, hw, b, hb, rfl⟩ := hi.bro h5
        obtain ⟨N, hN, rfl⟩ := xN (n := 96) (by decide) (by decide) h17
        have hb6 := hl.b6
        have eb : (nI b).toNatClampNeg = b := nI_clamp (by omega)
        have eN : (nI N).toNatClampNeg = N := nI_clamp (by omega)
        refine Rn.step (pc' := 35) rfl rfl ?_
        refine Rn.vv (pc' := 38) rfl (by decide) (by omega) rfl rfl rfl (c_M_keeps) ?_
        refine Rn.step (pc' := 39) rfl rfl ?_
        refine Rn.step (pc' := 40) rfl rfl ?_
        refine Rn.callV (pc' := 43) rfl (by decide) (by omega) rfl rfl rfl (g_on hl hw hv (hru.a rfl rfl rfl rfl) (by omega) (N := N) (by omega)) (fun r_ m_ hc_ => ?_)
        obtain ⟨rfl, z2, x2, LA2, rfl⟩ := hc_
        refine Rn.step (pc' := 44) rfl rfl ?_
        refine Rn.step (pc' := 45) rfl rfl ?_
        refine Rn.step (pc' := 46) rfl rfl ?_
        refine Rn.step (pc' := 47) rfl rfl ?_
        refine Rn.ifc_ne (pc1 := 54) (pc2 := 50) rfl rfl rfl (fun h47 => ?_) (fun h47 => ?_)
        · refine Rn.step (pc' := 55) rfl rfl ?_
          refine Rn.iconst (v := 1) (pc' := 56) rfl (by decide) rfl ?_
          refine Rn.icmp_ne (pc1 := 63) (pc2 := 59) rfl rfl rfl (fun h56 => ?_) (fun h56 => ?_)
          · refine Rn.iconst (v := 5) (pc' := 64) rfl (by decide) rfl ?_
            refine Rn.vi (pc' := 67) rfl (by decide) (by omega) rfl rfl rfl (c_M_brotherOf b 5 (by omega)) ?_
            refine Rn.step (pc' := 69) rfl rfl ?_
            refine Rn.step (pc' := 70) rfl rfl ?_
            refine Rn.vv (pc' := 73) rfl (by decide) (by omega) rfl rfl rfl (c_M_laysBack) ?_
            refine Rn.step (pc' := 75) rfl rfl ?_
            exact Rn.iret rfl (rfl) (⟨fun hg => absurd hg (fun z => z.elim (fun c => c h5) (fun z => z.elim (fun c => c h17) (fun c => c h29))), fun _ => ⟨by
                rw [eb, eN, aAh, if_neg h47, if_neg h56], by
                rw [va_up_self, cpf_back (mPo_w (E := evf v rl Bn Fn Wn) 0 hl hw N).1]
                exact MZ.mg0 ⟨z2, x2, _, LA2, rfl⟩⟩⟩)
          · refine Rn.iconst (v := 3) (pc' := 60) rfl (by decide) rfl ?_
            refine Rn.step (pc' := 64) rfl rfl ?_
            refine Rn.vi (pc' := 67) rfl (by decide) (by omega) rfl rfl rfl (c_M_brotherOf b 3 (by omega)) ?_
            refine Rn.step (pc' := 69) rfl rfl ?_
            refine Rn.step (pc' := 70) rfl rfl ?_
            refine Rn.vv (pc' := 73) rfl (by decide) (by omega) rfl rfl rfl (c_M_laysBack) ?_
            refine Rn.step (pc' := 75) rfl rfl ?_
            exact Rn.iret rfl (rfl) (⟨fun hg => absurd hg (fun z => z.elim (fun c => c h5) (fun z => z.elim (fun c => c h17) (fun c => c h29))), fun _ => ⟨by
                rw [eb, eN, aAh, if_neg h47, if_pos h56], by
                rw [va_up_self, cpf_back (mPo_w (E := evf v rl Bn Fn Wn) 0 hl hw N).1]
                exact MZ.mg0 ⟨z2, x2, _, LA2, rfl⟩⟩⟩)
        · refine Rn.iconst (v := 0) (pc' := 51) rfl (by decide) rfl ?_
          refine Rn.step (pc' := 64) rfl rfl ?_
          refine Rn.vi (pc' := 67) rfl (by decide) (by omega) rfl rfl rfl (c_M_brotherOf b 0 (by omega)) ?_
          refine Rn.step (pc' := 69) rfl rfl ?_
          refine Rn.step (pc' := 70) rfl rfl ?_
          refine Rn.vv (pc' := 73) rfl (by decide) (by omega) rfl rfl rfl (c_M_laysBack) ?_
          refine Rn.step (pc' := 75) rfl rfl ?_
          exact Rn.iret rfl (rfl) (⟨fun hg => absurd hg (fun z => z.elim (fun c => c h5) (fun z => z.elim (fun c => c h17) (fun c => c h29))), fun _ => ⟨by
              rw [eb, eN, aAh, if_pos h47], by
              rw [va_up_self, cpf_back (mPo_w (E := evf v rl Bn Fn Wn) 0 hl hw N).1]
              exact MZ.mg0 ⟨z2, x2, _, LA2, rfl⟩⟩⟩)
      · refine Rn.iconst (v := (-1)) (pc' := 33) rfl (by decide) rfl ?_
        exact Rn.iret rfl (rfl) (⟨fun _ => ⟨rfl, MG.rfl _ _ _ _ _ _⟩, fun hg => absurd (Or.inr (Or.inr (h29))) hg⟩)
/-- to whom they are lent, and what it pays: of the first k -/
def flE (E : xEv) (s : Nat → Int32) (N : Nat) (wo : Int32) : Nat → Int32 × Int32
  | 0 => (-1, oP E (lnd s (-1)) N)
  | k + 1 => if nI k = wo ∨ s 1 < s (10 + 6 * k + 2) then flE E s N wo k else if (flE E s N wo k).2 < oP E (lnd s (nI k)) N then (nI k, oP E (lnd s (nI k)) N) else flE E s N wo k
theorem flE_s (E : xEv) (s : Nat → Int32) (N : Nat) (wo : Int32) (k : Nat) : flE E s N wo (k + 1) = if nI k = wo ∨ s 1 < s (10 + 6 * k + 2) then flE E s N wo k else if (flE E s N wo k).2 < oP E (lnd s (nI k)) N then (nI k, oP E (lnd s (nI k)) N) else flE E s N wo k := rfl
/-- the same, with what is known of the fields -/
def MV (m0 : xM) (v : Nat → Int32) (A : Nat → Nat → Int32) (s : Nat → Int32) (Q : (Nat → Int32) → Prop) (m : xM) : Prop := ∃ v' dx' A' LA', m = MS m0 v' dx' A' LA' s ∧ (∀ i, ¬ scr i → v' i = v i) ∧ (∀ k, ¬ sca k → A' k = A k) ∧ Q v'
theorem MV.mg {Q : (Nat → Int32) → Prop} {m : xM} (h : MV m0 v A s Q m) : MG m0 v A s m := by
  obtain ⟨v', dx', A', LA', e, h1, h2, -⟩ := h
  exact ⟨v', dx', A', LA', e, h1, h2⟩
theorem evf_eq {v v' : Nat → Int32} (h : ∀ i, ¬ scr i → v' i = v i) (rl : xRl) (Bn Fn Wn : Nat) : evf v' rl Bn Fn Wn = evf v rl Bn Fn Wn := by
  show (v' 21, rl, v' 23, v' 24, Bn, Fn, Wn) = (v 21, rl, v 23, v 24, Bn, Fn, Wn)
  rw [h 21 (by unfold scr; omega), h 23 (by unfold scr; omega), h 24 (by unfold scr; omega)]
theorem mRu.g {rl : xRl} {v v' : Nat → Int32} {A A' : Nat → Nat → Int32} (h : mRu v A rl) (h1 : ∀ i, ¬ scr i → v' i = v i) (h2 : ∀ k, ¬ sca k → A' k = A k) : mRu v' A' rl := h.a (h1 21 (by unfold scr; omega)) (h2 52 (by unfold sca; omega)) (h2 54 (by unfold sca; omega)) (h2 55 (by unfold sca; omega))
theorem as_up {A A1 : Nat → Nat → Int32} (h : ∀ k, ¬ sca k → A1 k = A k) {a : Nat} (ha : sca a) (x : Nat → Int32) : ∀ k, ¬ sca k → va_up A1 a x k = A k := fun k hk => by
  have hne : k ≠ a := fun e => hk (by rw [e]; exact ha)
  simp only [va_up, if_neg hne]
  exact h k hk
theorem hv_g {v v' : Nat → Int32} (h : v 24 = 0 ∨ v 24 = 1) (h1 : ∀ i, ¬ scr i → v' i = v i) : v' 24 = 0 ∨ v' 24 = 1 := by
  rw [h1 24 (by unfold scr; omega)]
  exact h
theorem l_M_findsLend {d P Bn Fn Wn N : Nat} {rl : xRl} {wo : Int32} (hl : WL P Bn Fn Wn s) (hw : WD P Bn s) (hv : v 24 = 0 ∨ v 24 = 1) (hru : mRu v A rl) (hd : 8 ≤ d) (hN : N < 1000) (k : Nat) (x4 : Value) (hx4 : x4 = xb ∨ ∃ i, x4 = .int i) (hk : k ≤ Bn) {m : xM} (hm : MV m0 v A s (fun u => u 29 = (flE (evf v rl Bn Fn Wn) s N wo k).1 ∧ u 30 = (flE (evf v rl Bn Fn Wn) s N wo k).2) m) : Rn d j_M_findsLend 17 [.ref 50, .int (nI N), .int wo, .int (nI k), x4] [] m (fun r m2 => r = none ∧ MV m0 v A s (fun u => u 29 = (flE (evf v rl Bn Fn Wn) s N wo Bn).1 ∧ u 30 = (flE (evf v rl Bn Fn Wn) s N wo Bn).2) m2) := by
  obtain ⟨v1, dx1, A1, LA1, rfl, vs1, as1, q29, q30⟩ := hm
  have hb6 := hl.b6
  have hE := evf_eq vs1 rl Bn Fn Wn
  refine Rn.step (pc' := 18) rfl rfl ?_
  refine Rn.step (pc' := 19) rfl rfl ?_
  refine Rn.getf (pc' := 22) rfl rfl rfl rfl rfl ?_
  refine Rn.iconst (v := 2) (pc' := 23) rfl (by decide) rfl ?_
  refine Rn.sald (k := 2) (pc' := 24) rfl rfl (by simp only [nI_lit, nI_add, pk_mul]) (by omega) (by decide) rfl ?_
  refine Rn.icmp_ge (pc1 := 80) (pc2 := 27) rfl rfl rfl (fun h24 => ?_) (fun h24 => ?_)
  · obtain rfl := nI_up (by omega) hk (hl.b ▸ h24)
    exact Rn.vret rfl (⟨rfl, v1, dx1, A1, LA1, rfl, vs1, as1, q29, q30⟩)
  · have hk2 := nI_dn (by omega) hk (hl.b ▸ h24)
    refine Rn.step (pc' := 28) rfl rfl ?_
    refine Rn.step (pc' := 29) rfl rfl ?_
    refine Rn.icmp_eq (pc1 := 74) (pc2 := 32) rfl rfl rfl (fun h29 => ?_) (fun h29 => ?_)
    · refine Rn.step (pc' := 77) rfl rfl ?_
      refine Rn.step (pc' := 17) rfl rfl ?_
      have e : flE (evf v rl Bn Fn Wn) s N wo (k + 1) = flE (evf v rl Bn Fn Wn) s N wo k := by rw [flE_s, if_pos (Or.inl h29)]
      exact Rn.ls5 rfl rfl rfl (congrArg Value.int (nI_i1 k)) rfl (l_M_findsLend hl hw hv hru hd hN (k + 1) _ hx4 (by omega) (by
        rw [e]
        exact ⟨v1, dx1, A1, LA1, rfl, vs1, as1, q29, q30⟩))
    · refine Rn.step (pc' := 33) rfl rfl ?_
      refine Rn.step (pc' := 34) rfl rfl ?_
      refine Rn.vi (pc' := 37) rfl (by decide) (by omega) rfl rfl rfl (c_M_fits (by omega) k (by omega)) ?_
      refine Rn.ifq_ne (pc1 := 43) (pc2 := 40) rfl rfl rfl (fun h37 => ?_) (fun h37 => ?_)
      · refine Rn.step (pc' := 44) rfl rfl ?_
        refine Rn.step (pc' := 45) rfl rfl ?_
        refine Rn.step (pc' := 46) rfl rfl ?_
        refine Rn.callV (pc' := 49) rfl (by decide) (by omega) rfl rfl rfl (c_M_paysLent hl hw (hv_g hv vs1) (hru.g vs1 as1) (by omega) hN (Or.inr ⟨k, hk2, rfl⟩) (MZ.of _ _ _ _ _ _)) (fun r_ m_ hc_ => ?_)
        obtain ⟨hr, z3, x3, kp3, LA3, rfl⟩ := hc_
        rw [hE] at hr
        subst hr
        refine Rn.step (pc' := 51) rfl rfl ?_
        refine Rn.step (pc' := 53) rfl rfl ?_
        refine Rn.step (pc' := 54) rfl rfl ?_
        refine Rn.getf (pc' := 57) rfl rfl rfl rfl rfl ?_
        refine Rn.icmp_gt (pc1 := 63) (pc2 := 60) rfl rfl rfl (fun h57 => ?_) (fun h57 => ?_)
        · refine Rn.step (pc' := 64) rfl rfl ?_
          refine Rn.step (pc' := 65) rfl rfl ?_
          refine Rn.mput (pc' := 68) rfl rfl rfl rfl (by decide) rfl ?_
          refine Rn.step (pc' := 69) rfl rfl ?_
          refine Rn.step (pc' := 71) rfl rfl ?_
          refine Rn.mput (pc' := 74) rfl rfl rfl rfl (by decide) rfl ?_
          refine Rn.step (pc' := 77) rfl rfl ?_
          refine Rn.step (pc' := 17) rfl rfl ?_
          have h57 : (flE (evf v rl Bn Fn Wn) s N wo k).2 < oP (evf v rl Bn Fn Wn) (lnd s (nI k)) N := by
            rw [← q30]
            exact h57
          have e : flE (evf v rl Bn Fn Wn) s N wo (k + 1) = (nI k, oP (evf v rl Bn Fn Wn) (lnd s (nI k)) N) := by rw [flE_s, if_neg (fun z => z.elim h29 h37), if_pos h57]
          exact Rn.ls5 rfl rfl rfl (congrArg Value.int (nI_i1 k)) rfl (l_M_findsLend hl hw hv hru hd hN (k + 1) _ (Or.inr ⟨_, rfl⟩) (by omega) (by
            rw [e]
            exact ⟨_, _, _, _, rfl, vs_up (vs_up (vs_up (vs_up vs1 (by unfold scr; omega) _) (by unfold scr; omega) _) (by unfold scr; omega) _) (by unfold scr; omega) _, as_up as1 (by unfold sca; omega) _, rfl, rfl⟩))
        · refine Rn.step (pc' := 74) rfl rfl ?_
          refine Rn.step (pc' := 77) rfl rfl ?_
          refine Rn.step (pc' := 17) rfl rfl ?_
          have h57 : ¬ (flE (evf v rl Bn Fn Wn) s N wo k).2 < oP (evf v rl Bn Fn Wn) (lnd s (nI k)) N := by
            rw [← q30]
            exact h57
          have e : flE (evf v rl Bn Fn Wn) s N wo (k + 1) = flE (evf v rl Bn Fn Wn) s N wo k := by rw [flE_s, if_neg (fun z => z.elim h29 h37), if_neg h57]
          exact Rn.ls5 rfl rfl rfl (congrArg Value.int (nI_i1 k)) rfl (l_M_findsLend hl hw hv hru hd hN (k + 1) _ (Or.inr ⟨_, rfl⟩) (by omega) (by
            rw [e]
            exact ⟨_, _, _, _, rfl, (vs_up (vs_up vs1 (by unfold scr; omega) _) (by unfold scr; omega) _), as_up as1 (by unfold sca; omega) _, q29, q30⟩))
      · refine Rn.step (pc' := 74) rfl rfl ?_
        refine Rn.step (pc' := 77) rfl rfl ?_
        refine Rn.step (pc' := 17) rfl rfl ?_
        have e : flE (evf v rl Bn Fn Wn) s N wo (k + 1) = flE (evf v rl Bn Fn Wn) s N wo k := by rw [flE_s, if_pos (Or.inr h37)]
        exact Rn.ls5 rfl rfl rfl (congrArg Value.int (nI_i1 k)) rfl (l_M_findsLend hl hw hv hru hd hN (k + 1) _ hx4 (by omega) (by
          rw [e]
          exact ⟨v1, dx1, A1, LA1, rfl, vs1, as1, q29, q30⟩))
termination_by Bn - k
theorem c_M_findsLend {d P Bn Fn Wn N : Nat} {rl : xRl} (hl : WL P Bn Fn Wn s) (hw : WD P Bn s) (hv : v 24 = 0 ∨ v 24 = 1) (hru : mRu v A rl) (hd : 8 ≤ d) (hN : N < 1000) (wo : Int32) {m : xM} (hm : MG m0 v A s m) : Cl d j_M_findsLend [.ref 50, .int (nI N), .int wo] m (fun r m2 => r = none ∧ MV m0 v A s (fun u => u 29 = (flE (evf v rl Bn Fn Wn) s N wo Bn).1 ∧ u 30 = (flE (evf v rl Bn Fn Wn) s N wo Bn).2) m2) := by
  show Rn d j_M_findsLend 0 _ _ _ _
  obtain ⟨v1, dx1, A1, LA1, rfl, vs1, as1⟩ := hm
  refine Rn.step (pc' := 1) rfl rfl ?_
  refine Rn.iconst (v := (-1)) (pc' := 2) rfl (by decide) rfl ?_
  refine Rn.mput (pc' := 5) rfl rfl rfl rfl (by decide) rfl ?_
  refine Rn.step (pc' := 6) rfl rfl ?_
  refine Rn.step (pc' := 7) rfl rfl ?_
  refine Rn.iconst (v := (-1)) (pc' := 8) rfl (by decide) rfl ?_
  refine Rn.step (pc' := 9) rfl rfl ?_
  refine Rn.callV (pc' := 12) rfl (by decide) (by omega) rfl rfl rfl (c_M_paysLent hl hw (hv_g hv (vs_up vs1 (show scr 29 by unfold scr; omega) (-1))) (hru.g (vs_up vs1 (show scr 29 by unfold scr; omega) (-1)) as1) (by omega) hN (Or.inl rfl) (MZ.of _ _ _ _ _ _)) (fun r_ m_ hc_ => ?_)
  obtain ⟨hr, z3, x3, kp3, LA3, rfl⟩ := hc_
  rw [evf_eq (vs_up vs1 (show scr 29 by unfold scr; omega) (-1))] at hr
  subst hr
  refine Rn.mput (pc' := 15) rfl rfl rfl rfl (by decide) rfl ?_
  refine Rn.iconst (v := 0) (pc' := 16) rfl (by decide) rfl ?_
  refine Rn.step (pc' := 17) rfl rfl ?_
  exact l_M_findsLend hl hw hv hru hd hN 0 _ (Or.inl rfl) (by omega) ⟨_, _, _, _, rfl, vs_up (vs_up (vs_up (vs_up vs1 (by unfold scr; omega) _) (by unfold scr; omega) _) (by unfold scr; omega) _) (by unfold scr; omega) _, as_up as1 (by unfold sca; omega) _, rfl, rfl⟩
def gLe (s : Nat → Int32) (x y : Int32) : Prop := ¬ 0 < s 0 ∨ ¬ (1 ≤ x ∧ x ≤ 24) ∨ ¬ (0 ≤ y ∧ y ≤ 1)
def gWo (s : Nat → Int32) (x y : Int32) : Prop := ¬ (¬ x < 0 ∧ ¬ s 2 ≤ x) ∨ ¬ (1 ≤ y ∧ y ≤ 24)
theorem vs_2 {v : Nat → Int32} {a b : Nat} {x y : Int32} (ha : scr a) (hb : scr b) : ∀ i, ¬ scr i → upd (upd v a x) b y i = v i := vs_up (vs_up (fun _ _ => Eq.refl _) ha x) hb y
theorem c_M_lend {d P Bn Fn Wn : Nat} {rl : xRl} (hi : LI P Bn Fn Wn s) (hv : v 24 = 0 ∨ v 24 = 1) (hru : mRu v A rl) (hd : 9 ≤ d) (x y : Int32) : Cl d j_M_lend [.ref 50, .int x, .int y] (MS m0 v dx A LA s) (fun r m2 => (gLe s x y → r = some (.int (-2)) ∧ MG m0 v A s m2) ∧ (¬ gLe s x y → r = some (.int (if y = 0 then (flE (evf v rl Bn Fn Wn) s x.toNatClampNeg (-1) Bn).1 else (flE (evf v rl Bn Fn Wn) s x.toNatClampNeg (-1) Bn).2)) ∧ MG m0 v A s m2)) := by
  show Rn d j_M_lend 0 _ _ _ _
  refine Rn.step (pc' := 1) rfl rfl ?_
  refine Rn.vi (pc' := 4) rfl (by decide) (by omega) rfl rfl rfl (c_M_isLane) ?_
  refine Rn.ifp_eq (pc1 := 29) (pc2 := 7) rfl rfl rfl (fun h4 => ?_) (fun h4 => ?_)
  · refine Rn.iconst (v := (-2)) (pc' := 31) rfl (by decide) rfl ?_
    exact Rn.iret rfl (rfl) (⟨fun _ => ⟨rfl, MG.rfl _ _ _ _ _ _⟩, fun hg => absurd (Or.inl h4) hg⟩)
  · refine Rn.step (pc' := 8) rfl rfl ?_
    refine Rn.i2l (pc' := 9) rfl rfl ?_
    refine Rn.ldc2 (v := 1) (pc' := 10) rfl (by decide) rfl ?_
    refine Rn.ldc2 (v := 24) (pc' := 13) rfl (by decide) rfl ?_
    refine Rn.si (pc' := 16) rfl (by decide) (by omega) rfl rfl (c_M_inI x 1 24 rfl rfl) ?_
    refine Rn.ifp_eq (pc1 := 29) (pc2 := 19) rfl rfl rfl (fun h16 => ?_) (fun h16 => ?_)
    · refine Rn.iconst (v := (-2)) (pc' := 31) rfl (by decide) rfl ?_
      exact Rn.iret rfl (rfl) (⟨fun _ => ⟨rfl, MG.rfl _ _ _ _ _ _⟩, fun hg => absurd (Or.inr (Or.inl h16)) hg⟩)
    · refine Rn.step (pc' := 20) rfl rfl ?_
      refine Rn.i2l (pc' := 21) rfl rfl ?_
      refine Rn.ldc2 (v := 0) (pc' := 22) rfl (by decide) rfl ?_
      refine Rn.ldc2 (v := 1) (pc' := 23) rfl (by decide) rfl ?_
      refine Rn.si (pc' := 26) rfl (by decide) (by omega) rfl rfl (c_M_inI y 0 1 rfl rfl) ?_
      refine Rn.ifp_ne (pc1 := 32) (pc2 := 29) rfl rfl rfl (fun h26 => ?_) (fun h26 => ?_)
      · obtain ⟨hl, hw⟩ := hi.lane h4
        obtain ⟨N, hN, rfl⟩ := xN (n := 24) (by decide) (by decide) h16
        have eN : (nI N).toNatClampNeg = N := nI_clamp (by omega)
        refine Rn.step (pc' := 33) rfl rfl ?_
        refine Rn.step (pc' := 34) rfl rfl ?_
        refine Rn.iconst (v := (-1)) (pc' := 35) rfl (by decide) rfl ?_
        refine Rn.callV (pc' := 38) rfl (by decide) (by omega) rfl rfl rfl (c_M_findsLend hl hw hv hru (by omega) (N := N) (by omega) (-1) (MG.rfl _ _ _ _ _ _)) (fun r_ m_ hc_ => ?_)
        obtain ⟨rfl, hm⟩ := hc_
        have hm1 := hm
        obtain ⟨v1, dx1, A1, LA1, rfl, vs1, as1, q29, q30⟩ := hm1
        refine Rn.step (pc' := 39) rfl rfl ?_
        refine Rn.ifc_ne (pc1 := 49) (pc2 := 42) rfl rfl rfl (fun h39 => ?_) (fun h39 => ?_)
        · refine Rn.step (pc' := 50) rfl rfl ?_
          refine Rn.getf (pc' := 53) rfl rfl rfl rfl rfl ?_
          exact Rn.iret rfl (rfl) (⟨fun hg => absurd hg (fun z => z.elim (fun c => c h4) (fun z => z.elim (fun c => c h16) (fun c => c h26))), fun _ => ⟨by
              rw [eN, if_neg h39, ← q30], hm.mg⟩⟩)
        · refine Rn.step (pc' := 43) rfl rfl ?_
          refine Rn.getf (pc' := 46) rfl rfl rfl rfl rfl ?_
          refine Rn.step (pc' := 53) rfl rfl ?_
          exact Rn.iret rfl (rfl) (⟨fun hg => absurd hg (fun z => z.elim (fun c => c h4) (fun z => z.elim (fun c => c h16) (fun c => c h26))), fun _ => ⟨by
              rw [eN, if_pos h39, ← q29], hm.mg⟩⟩)
      · refine Rn.iconst (v := (-2)) (pc' := 31) rfl (by decide) rfl ?_
        exact Rn.iret rfl (rfl) (⟨fun _ => ⟨rfl, MG.rfl _ _ _ _ _ _⟩, fun hg => absurd (Or.inr (Or.inr (h26))) hg⟩)
theorem c_M_worth {d P Bn Fn Wn : Nat} {rl : xRl} (hi : LI P Bn Fn Wn s) (hv : v 24 = 0 ∨ v 24 = 1) (hru : mRu v A rl) (hd : 9 ≤ d) (x y : Int32) : Cl d j_M_worth [.ref 50, .int x, .int y] (MS m0 v dx A LA s) (fun r m2 => (gWo s x y → r = some (.int (-1)) ∧ MG m0 v A s m2) ∧ (¬ gWo s x y → r = some (.int ((flE (evf v rl Bn Fn Wn) s y.toNatClampNeg (-1) Bn).2 - (flE (evf v rl Bn Fn Wn) s y.toNatClampNeg x Bn).2)) ∧ MG m0 v A s m2)) := by
  show Rn d j_M_worth 0 _ _ _ _
  refine Rn.step (pc' := 1) rfl rfl ?_
  refine Rn.step (pc' := 2) rfl rfl ?_
  refine Rn.vi (pc' := 5) rfl (by decide) (by omega) rfl rfl rfl (c_M_isBrother x) ?_
  refine Rn.ifp_eq (pc1 := 20) (pc2 := 8) rfl rfl rfl (fun h5 => ?_) (fun h5 => ?_)
  · refine Rn.iconst (v := (-1)) (pc' := 21) rfl (by decide) rfl ?_
    exact Rn.iret rfl (rfl) (⟨fun _ => ⟨rfl, MG.rfl _ _ _ _ _ _⟩, fun hg => absurd (Or.inl h5) hg⟩)
  · refine Rn.step (pc' := 9) rfl rfl ?_
    refine Rn.i2l (pc' := 10) rfl rfl ?_
    refine Rn.ldc2 (v := 1) (pc' := 11) rfl (by decide) rfl ?_
    refine Rn.ldc2 (v := 24) (pc' := 14) rfl (by decide) rfl ?_
    refine Rn.si (pc' := 17) rfl (by decide) (by omega) rfl rfl (c_M_inI y 1 24 rfl rfl) ?_
    refine Rn.ifp_ne (pc1 := 22) (pc2 := 20) rfl rfl rfl (fun h17 => ?_) (fun h17 => ?_)
    · obtain ⟨h0, hl, hw, b, hb, rfl⟩ := hi.bro h5
      obtain ⟨N, hN, rfl⟩ := xN (n := 24) (by decide) (by decide) h17
      have eN : (nI N).toNatClampNeg = N := nI_clamp (by omega)
      refine Rn.step (pc' := 23) rfl rfl ?_
      refine Rn.step (pc' := 24) rfl rfl ?_
      refine Rn.iconst (v := (-1)) (pc' := 25) rfl (by decide) rfl ?_
      refine Rn.callV (pc' := 28) rfl (by decide) (by omega) rfl rfl rfl (c_M_findsLend hl hw hv hru (by omega) (N := N) (by omega) (-1) (MG.rfl _ _ _ _ _ _)) (fun r_ m_ hc_ => ?_)
      obtain ⟨rfl, hm⟩ := hc_
      have hm1 := hm
      obtain ⟨v1, dx1, A1, LA1, rfl, vs1, as1, q29, q30⟩ := hm1
      refine Rn.step (pc' := 29) rfl rfl ?_
      refine Rn.getf (pc' := 32) rfl rfl rfl rfl rfl ?_
      refine Rn.step (pc' := 33) rfl rfl ?_
      refine Rn.step (pc' := 34) rfl rfl ?_
      refine Rn.step (pc' := 35) rfl rfl ?_
      refine Rn.step (pc' := 36) rfl rfl ?_
      refine Rn.callV (pc' := 39) rfl (by decide) (by omega) rfl rfl rfl (c_M_findsLend hl hw hv hru (by omega) (N := N) (by omega) (nI b) hm.mg) (fun r_ m_ hc_ => ?_)
      obtain ⟨rfl, hm3⟩ := hc_
      have hm4 := hm3
      obtain ⟨v4, dx4, A4, LA4, rfl, vs4, as4, r29, r30⟩ := hm4
      refine Rn.step (pc' := 40) rfl rfl ?_
      refine Rn.step (pc' := 41) rfl rfl ?_
      refine Rn.getf (pc' := 44) rfl rfl rfl rfl rfl ?_
      refine Rn.isub (pc' := 45) rfl rfl ?_
      exact Rn.iret rfl (rfl) (⟨fun hg => absurd hg (fun z => z.elim (fun c => c h5) (fun c => c h17)), fun _ => ⟨by
          rw [eN, ← q30, ← r30], hm3.mg⟩⟩)
    · refine Rn.iconst (v := (-1)) (pc' := 21) rfl (by decide) rfl ?_
      exact Rn.iret rfl (rfl) (⟨fun _ => ⟨rfl, MG.rfl _ _ _ _ _ _⟩, fun hg => absurd (Or.inr (h17)) hg⟩)
/-- bids: how many, the first, the next -/
def bdE (E : xEv) (s : Nat → Int32) (N : Nat) : Nat → Int32 × Int32 × Int32
  | 0 => (0, 0, 0)
  | k + 1 => if s 1 < s (10 + 6 * k + 2) then bdE E s N k else
    if (bdE E s N k).1 = 0 ∨ (bdE E s N k).2.1 < oP E (lnd s (nI k)) N - oP E (lnd s (-1)) N then ((bdE E s N k).1 + 1, oP E (lnd s (nI k)) N - oP E (lnd s (-1)) N, if (bdE E s N k).1 = 0 then 0 else (bdE E s N k).2.1)
    else if (bdE E s N k).1 = 1 ∨ (bdE E s N k).2.2 < oP E (lnd s (nI k)) N - oP E (lnd s (-1)) N then ((bdE E s N k).1 + 1, (bdE E s N k).2.1, oP E (lnd s (nI k)) N - oP E (lnd s (-1)) N)
    else ((bdE E s N k).1 + 1, (bdE E s N k).2.1, (bdE E s N k).2.2)
def bdA (q : Int32 × Int32 × Int32) : Int32 := if q.1 < 2 ∨ q.2.2 < 0 then 0 else q.2.2
def gBi (s : Nat → Int32) (x : Int32) : Prop := ¬ 0 < s 0 ∨ ¬ (1 ≤ x ∧ x ≤ 24)
theorem l_M_bids {d P Bn Fn Wn N : Nat} {rl : xRl} (hl : WL P Bn Fn Wn s) (hw : WD P Bn s) (hv : v 24 = 0 ∨ v 24 = 1) (hru : mRu v A rl) (hd : 8 ≤ d) (hN : N < 1000) (k : Nat) (x7 : Value) (hx7 : x7 = xb ∨ ∃ i, x7 = .int i) (hk : k ≤ Bn) {m : xM} (hm : MZ m0 v dx A s m) : Rn d j_M_bids 39 [.ref 50, .int (nI N), .int (bdE (evf v rl Bn Fn Wn) s N k).1, .int (bdE (evf v rl Bn Fn Wn) s N k).2.1, .int (bdE (evf v rl Bn Fn Wn) s N k).2.2, .int (oP (evf v rl Bn Fn Wn) (lnd s (-1)) N), .int (nI k), x7] [] m (fun r m2 => r = some (.int (bdA (bdE (evf v rl Bn Fn Wn) s N Bn))) ∧ MZ m0 v dx A s m2) := by
  have hm1 := hm
  obtain ⟨z, x, kp, LA, rfl⟩ := hm1
  have hb6 := hl.b6
  refine Rn.step (pc' := 41) rfl rfl ?_
  refine Rn.step (pc' := 42) rfl rfl ?_
  refine Rn.getf (pc' := 45) rfl rfl rfl rfl rfl ?_
  refine Rn.iconst (v := 2) (pc' := 46) rfl (by decide) rfl ?_
  refine Rn.sald (k := 2) (pc' := 47) rfl rfl (by simp only [nI_lit, nI_add, pk_mul]) (by omega) (by decide) rfl ?_
  refine Rn.icmp_ge (pc1 := 125) (pc2 := 50) rfl rfl rfl (fun h47 => ?_) (fun h47 => ?_)
  · obtain rfl := nI_up (by omega) hk (hl.b ▸ h47)
    refine Rn.step (pc' := 126) rfl rfl ?_
    refine Rn.iconst (v := 2) (pc' := 127) rfl (by decide) rfl ?_
    refine Rn.icmp_lt (pc1 := 135) (pc2 := 130) rfl rfl rfl (fun h127 => ?_) (fun h127 => ?_)
    · refine Rn.iconst (v := 0) (pc' := 136) rfl (by decide) rfl ?_
      refine Rn.step (pc' := 141) rfl rfl ?_
      exact Rn.iret rfl (rfl) (⟨by rw [bdA, if_pos (Or.inl h127)], hm⟩)
    · refine Rn.step (pc' := 132) rfl rfl ?_
      refine Rn.ifc_ge (pc1 := 139) (pc2 := 135) rfl rfl rfl (fun h132 => ?_) (fun h132 => ?_)
      · refine Rn.step (pc' := 141) rfl rfl ?_
        exact Rn.iret rfl (rfl) (⟨by rw [bdA, if_neg (fun z => z.elim h127 (Int32.not_lt.mpr h132))], hm⟩)
      · refine Rn.iconst (v := 0) (pc' := 136) rfl (by decide) rfl ?_
        refine Rn.step (pc' := 141) rfl rfl ?_
        exact Rn.iret rfl (rfl) (⟨by rw [bdA, if_pos (Or.inr (Int32.not_le.mp h132))], hm⟩)
  · have hk2 := nI_dn (by omega) hk (hl.b ▸ h47)
    refine Rn.step (pc' := 51) rfl rfl ?_
    refine Rn.step (pc' := 53) rfl rfl ?_
    refine Rn.vi (pc' := 56) rfl (by decide) (by omega) rfl rfl rfl (c_M_fits (by omega) k (by omega)) ?_
    refine Rn.ifq_ne (pc1 := 62) (pc2 := 59) rfl rfl rfl (fun h56 => ?_) (fun h56 => ?_)
    · refine Rn.step (pc' := 63) rfl rfl ?_
      refine Rn.step (pc' := 65) rfl rfl ?_
      refine Rn.step (pc' := 66) rfl rfl ?_
      refine Rn.callV (pc' := 69) rfl (by decide) (by omega) rfl rfl rfl (c_M_paysLent hl hw hv hru (by omega) hN (Or.inr ⟨k, hk2, rfl⟩) hm) (fun r_ m_ hc_ => ?_)
      obtain ⟨rfl, hm⟩ := hc_
      have hm2 := hm
      obtain ⟨z3, x3, kp3, LA3, rfl⟩ := hm2
      refine Rn.step (pc' := 71) rfl rfl ?_
      refine Rn.isub (pc' := 72) rfl rfl ?_
      refine Rn.step (pc' := 74) rfl rfl ?_
      refine Rn.step (pc' := 75) rfl rfl ?_
      refine Rn.ifc_eq (pc1 := 84) (pc2 := 78) rfl rfl rfl (fun h75 => ?_) (fun h75 => ?_)
      · refine Rn.step (pc' := 85) rfl rfl ?_
        refine Rn.step (pc' := 87) rfl rfl ?_
        refine Rn.step (pc' := 89) rfl rfl ?_
        refine Rn.step (pc' := 90) rfl rfl ?_
        refine Rn.step (pc' := 91) rfl rfl ?_
        refine Rn.ifc_ne (pc1 := 116) (pc2 := 94) rfl rfl rfl (fun h91 => ?_) (fun h91 => ?_)
        · refine Rn.step (pc' := 119) rfl rfl ?_
          refine Rn.step (pc' := 122) rfl rfl ?_
          refine Rn.step (pc' := 39) rfl rfl ?_
          exact absurd h75 h91
        · refine Rn.iconst (v := 0) (pc' := 95) rfl (by decide) rfl ?_
          refine Rn.step (pc' := 97) rfl rfl ?_
          refine Rn.step (pc' := 116) rfl rfl ?_
          refine Rn.step (pc' := 119) rfl rfl ?_
          refine Rn.step (pc' := 122) rfl rfl ?_
          refine Rn.step (pc' := 39) rfl rfl ?_
          have := l_M_bids (N := N) hl hw hv hru hd hN (k + 1) (.int (oP (evf v rl Bn Fn Wn) (lnd s (nI k)) N - oP (evf v rl Bn Fn Wn) (lnd s (-1)) N)) (Or.inr ⟨_, rfl⟩) (by omega) hm
          have e : bdE (evf v rl Bn Fn Wn) s N (k + 1) = ((bdE (evf v rl Bn Fn Wn) s N k).1 + 1, oP (evf v rl Bn Fn Wn) (lnd s (nI k)) N - oP (evf v rl Bn Fn Wn) (lnd s (-1)) N, 0) := by rw [bdE, if_neg h56, if_pos (Or.inl h75), if_pos h91]
          rw [e, ← nI_i1 k] at this
          exact this
      · refine Rn.step (pc' := 80) rfl rfl ?_
        refine Rn.step (pc' := 81) rfl rfl ?_
        refine Rn.icmp_le (pc1 := 100) (pc2 := 84) rfl rfl rfl (fun h81 => ?_) (fun h81 => ?_)
        · refine Rn.step (pc' := 101) rfl rfl ?_
          refine Rn.iconst (v := 1) (pc' := 102) rfl (by decide) rfl ?_
          refine Rn.icmp_eq (pc1 := 112) (pc2 := 105) rfl rfl rfl (fun h102 => ?_) (fun h102 => ?_)
          · refine Rn.step (pc' := 114) rfl rfl ?_
            refine Rn.step (pc' := 116) rfl rfl ?_
            refine Rn.step (pc' := 119) rfl rfl ?_
            refine Rn.step (pc' := 122) rfl rfl ?_
            refine Rn.step (pc' := 39) rfl rfl ?_
            have := l_M_bids (N := N) hl hw hv hru hd hN (k + 1) (.int (oP (evf v rl Bn Fn Wn) (lnd s (nI k)) N - oP (evf v rl Bn Fn Wn) (lnd s (-1)) N)) (Or.inr ⟨_, rfl⟩) (by omega) hm
            have e : bdE (evf v rl Bn Fn Wn) s N (k + 1) = ((bdE (evf v rl Bn Fn Wn) s N k).1 + 1, (bdE (evf v rl Bn Fn Wn) s N k).2.1, oP (evf v rl Bn Fn Wn) (lnd s (nI k)) N - oP (evf v rl Bn Fn Wn) (lnd s (-1)) N) := by rw [bdE, if_neg h56, if_neg (fun z => z.elim h75 (Int32.not_lt.mpr h81)), if_pos (Or.inl h102)]
            rw [e, ← nI_i1 k] at this
            exact this
          · refine Rn.step (pc' := 107) rfl rfl ?_
            refine Rn.step (pc' := 109) rfl rfl ?_
            refine Rn.icmp_le (pc1 := 116) (pc2 := 112) rfl rfl rfl (fun h109 => ?_) (fun h109 => ?_)
            · refine Rn.step (pc' := 119) rfl rfl ?_
              refine Rn.step (pc' := 122) rfl rfl ?_
              refine Rn.step (pc' := 39) rfl rfl ?_
              have := l_M_bids (N := N) hl hw hv hru hd hN (k + 1) (.int (oP (evf v rl Bn Fn Wn) (lnd s (nI k)) N - oP (evf v rl Bn Fn Wn) (lnd s (-1)) N)) (Or.inr ⟨_, rfl⟩) (by omega) hm
              have e : bdE (evf v rl Bn Fn Wn) s N (k + 1) = ((bdE (evf v rl Bn Fn Wn) s N k).1 + 1, (bdE (evf v rl Bn Fn Wn) s N k).2.1, (bdE (evf v rl Bn Fn Wn) s N k).2.2) := by rw [bdE, if_neg h56, if_neg (fun z => z.elim h75 (Int32.not_lt.mpr h81)), if_neg (fun z => z.elim h102 (Int32.not_lt.mpr h109))]
              rw [e, ← nI_i1 k] at this
              exact this
            · refine Rn.step (pc' := 114) rfl rfl ?_
              refine Rn.step (pc' := 116) rfl rfl ?_
              refine Rn.step (pc' := 119) rfl rfl ?_
              refine Rn.step (pc' := 122) rfl rfl ?_
              refine Rn.step (pc' := 39) rfl rfl ?_
              have := l_M_bids (N := N) hl hw hv hru hd hN (k + 1) (.int (oP (evf v rl Bn Fn Wn) (lnd s (nI k)) N - oP (evf v rl Bn Fn Wn) (lnd s (-1)) N)) (Or.inr ⟨_, rfl⟩) (by omega) hm
              have e : bdE (evf v rl Bn Fn Wn) s N (k + 1) = ((bdE (evf v rl Bn Fn Wn) s N k).1 + 1, (bdE (evf v rl Bn Fn Wn) s N k).2.1, oP (evf v rl Bn Fn Wn) (lnd s (nI k)) N - oP (evf v rl Bn Fn Wn) (lnd s (-1)) N) := by rw [bdE, if_neg h56, if_neg (fun z => z.elim h75 (Int32.not_lt.mpr h81)), if_pos (Or.inr (Int32.not_le.mp h109))]
              rw [e, ← nI_i1 k] at this
              exact this
        · refine Rn.step (pc' := 85) rfl rfl ?_
          refine Rn.step (pc' := 87) rfl rfl ?_
          refine Rn.step (pc' := 89) rfl rfl ?_
          refine Rn.step (pc' := 90) rfl rfl ?_
          refine Rn.step (pc' := 91) rfl rfl ?_
          refine Rn.ifc_ne (pc1 := 116) (pc2 := 94) rfl rfl rfl (fun h91 => ?_) (fun h91 => ?_)
          · refine Rn.step (pc' := 119) rfl rfl ?_
            refine Rn.step (pc' := 122) rfl rfl ?_
            refine Rn.step (pc' := 39) rfl rfl ?_
            have := l_M_bids (N := N) hl hw hv hru hd hN (k + 1) (.int (oP (evf v rl Bn Fn Wn) (lnd s (nI k)) N - oP (evf v rl Bn Fn Wn) (lnd s (-1)) N)) (Or.inr ⟨_, rfl⟩) (by omega) hm
            have e : bdE (evf v rl Bn Fn Wn) s N (k + 1) = ((bdE (evf v rl Bn Fn Wn) s N k).1 + 1, oP (evf v rl Bn Fn Wn) (lnd s (nI k)) N - oP (evf v rl Bn Fn Wn) (lnd s (-1)) N, (bdE (evf v rl Bn Fn Wn) s N k).2.1) := by rw [bdE, if_neg h56, if_pos (Or.inr (Int32.not_le.mp h81)), if_neg h91]
            rw [e, ← nI_i1 k] at this
            exact this
          · refine Rn.iconst (v := 0) (pc' := 95) rfl (by decide) rfl ?_
            refine Rn.step (pc' := 97) rfl rfl ?_
            refine Rn.step (pc' := 116) rfl rfl ?_
            refine Rn.step (pc' := 119) rfl rfl ?_
            refine Rn.step (pc' := 122) rfl rfl ?_
            refine Rn.step (pc' := 39) rfl rfl ?_
            have := l_M_bids (N := N) hl hw hv hru hd hN (k + 1) (.int (oP (evf v rl Bn Fn Wn) (lnd s (nI k)) N - oP (evf v rl Bn Fn Wn) (lnd s (-1)) N)) (Or.inr ⟨_, rfl⟩) (by omega) hm
            have e : bdE (evf v rl Bn Fn Wn) s N (k + 1) = ((bdE (evf v rl Bn Fn Wn) s N k).1 + 1, oP (evf v rl Bn Fn Wn) (lnd s (nI k)) N - oP (evf v rl Bn Fn Wn) (lnd s (-1)) N, 0) := by rw [bdE, if_neg h56, if_pos (Or.inr (Int32.not_le.mp h81)), if_pos h91]
            rw [e, ← nI_i1 k] at this
            exact this
    · refine Rn.step (pc' := 119) rfl rfl ?_
      refine Rn.step (pc' := 122) rfl rfl ?_
      refine Rn.step (pc' := 39) rfl rfl ?_
      have := l_M_bids (N := N) hl hw hv hru hd hN (k + 1) x7 hx7 (by omega) hm
      have e : bdE (evf v rl Bn Fn Wn) s N (k + 1) = bdE (evf v rl Bn Fn Wn) s N k := by rw [bdE, if_pos h56]
      rw [e, ← nI_i1 k] at this
      exact this
termination_by Bn - k
theorem c_M_bids {d P Bn Fn Wn : Nat} {rl : xRl} (hi : LI P Bn Fn Wn s) (hv : v 24 = 0 ∨ v 24 = 1) (hru : mRu v A rl) (hd : 9 ≤ d) (x : Int32) : Cl d j_M_bids [.ref 50, .int x] (MS m0 v dx A LA s) (fun r m2 => (gBi s x → r = some (.int (-1)) ∧ MG m0 v A s m2) ∧ (¬ gBi s x → r = some (.int (bdA (bdE (evf v rl Bn Fn Wn) s x.toNatClampNeg Bn))) ∧ MG m0 v A s m2)) := by
  show Rn d j_M_bids 0 _ _ _ _
  refine Rn.step (pc' := 1) rfl rfl ?_
  refine Rn.vi (pc' := 4) rfl (by decide) (by omega) rfl rfl rfl (c_M_isLane) ?_
  refine Rn.ifp_eq (pc1 := 19) (pc2 := 7) rfl rfl rfl (fun h4 => ?_) (fun h4 => ?_)
  · refine Rn.iconst (v := (-1)) (pc' := 20) rfl (by decide) rfl ?_
    exact Rn.iret rfl (rfl) (⟨fun _ => ⟨rfl, MG.rfl _ _ _ _ _ _⟩, fun hg => absurd (Or.inl h4) hg⟩)
  · refine Rn.step (pc' := 8) rfl rfl ?_
    refine Rn.i2l (pc' := 9) rfl rfl ?_
    refine Rn.ldc2 (v := 1) (pc' := 10) rfl (by decide) rfl ?_
    refine Rn.ldc2 (v := 24) (pc' := 13) rfl (by decide) rfl ?_
    refine Rn.si (pc' := 16) rfl (by decide) (by omega) rfl rfl (c_M_inI x 1 24 rfl rfl) ?_
    refine Rn.ifp_ne (pc1 := 21) (pc2 := 19) rfl rfl rfl (fun h16 => ?_) (fun h16 => ?_)
    · obtain ⟨hl, hw⟩ := hi.lane h4
      obtain ⟨N, hN, rfl⟩ := xN (n := 24) (by decide) (by decide) h16
      have eN : (nI N).toNatClampNeg = N := nI_clamp (by omega)
      refine Rn.iconst (v := 0) (pc' := 22) rfl (by decide) rfl ?_
      refine Rn.step (pc' := 23) rfl rfl ?_
      refine Rn.iconst (v := 0) (pc' := 24) rfl (by decide) rfl ?_
      refine Rn.step (pc' := 25) rfl rfl ?_
      refine Rn.iconst (v := 0) (pc' := 26) rfl (by decide) rfl ?_
      refine Rn.step (pc' := 28) rfl rfl ?_
      refine Rn.step (pc' := 29) rfl rfl ?_
      refine Rn.iconst (v := (-1)) (pc' := 30) rfl (by decide) rfl ?_
      refine Rn.step (pc' := 31) rfl rfl ?_
      refine Rn.callV (pc' := 34) rfl (by decide) (by omega) rfl rfl rfl (c_M_paysLent hl hw hv hru (by omega) (N := N) (by omega) (Or.inl rfl) (MZ.of _ _ _ _ _ _)) (fun r_ m_ hc_ => ?_)
      obtain ⟨rfl, hm⟩ := hc_
      have hm1 := hm
      obtain ⟨z, x2, kp, LA2, rfl⟩ := hm1
      refine Rn.step (pc' := 36) rfl rfl ?_
      refine Rn.iconst (v := 0) (pc' := 37) rfl (by decide) rfl ?_
      refine Rn.step (pc' := 39) rfl rfl ?_
      refine (l_M_bids (N := N) hl hw hv hru (by omega) (by omega) 0 _ (Or.inl rfl) (by omega) hm).conseq ?_
      rintro r m2 ⟨rfl, h9⟩
      exact ⟨fun hg => absurd hg (fun z => z.elim (fun c => c h4) (fun c => c h16)), fun _ => ⟨by rw [eN], h9.mg0⟩⟩
    · refine Rn.iconst (v := (-1)) (pc' := 20) rfl (by decide) rfl ?_
      exact Rn.iret rfl (rfl) (⟨fun _ => ⟨rfl, MG.rfl _ _ _ _ _ _⟩, fun hg => absurd (Or.inr (h16)) hg⟩)
end MC
