/-! THE MODEL: the calls of acts and of hours tried. -/
section MB
variable {m0 : xM} {v : Nat → Int32} {dx : Int64} {A : Nat → Nat → Int32} {LA : Nat → Nat → Int64} {s : Nat → Int32}
/-- a lane as it must be, or none -/
def LI (P Bn Fn Wn : Nat) (s : Nat → Int32) : Prop := (0 < s 0 ∧ WL P Bn Fn Wn s ∧ WD P Bn s) ∨ (s 0 = 0 ∧ s 2 = 0 ∧ s 3 = 0 ∧ s 4 = 0 ∧ P = 0 ∧ Bn = 0 ∧ Fn = 0 ∧ Wn = 0)
theorem LI.lane {P Bn Fn Wn : Nat} {s : Nat → Int32} (h : LI P Bn Fn Wn s) (h0 : 0 < s 0) : WL P Bn Fn Wn s ∧ WD P Bn s := by
  rcases h with h | h
  · exact h.2
  · rw [h.1] at h0
    exact absurd h0 (by decide)
theorem LI.bro {P Bn Fn Wn : Nat} {s : Nat → Int32} (h : LI P Bn Fn Wn s) {x : Int32} (h0 : ¬ x < 0 ∧ ¬ s 2 ≤ x) : 0 < s 0 ∧ WL P Bn Fn Wn s ∧ WD P Bn s ∧ ∃ b, b < Bn ∧ x = nI b := by
  rcases h with h | h
  · refine ⟨h.1, h.2.1, h.2.2, ?_⟩
    have h1 := h.2.1.b
    have h2 := h.2.1.b6
    rw [h1] at h0
    exact pl_in (by omega) h0.1 h0.2
  · rw [h.2.1] at h0
    exact absurd (Int32.not_lt.mp h0.1) h0.2
theorem x01 {x : Int32} (h : 0 ≤ x ∧ x ≤ 1) : ∃ k, k < 2 ∧ x = nI k := by
  obtain ⟨k, hk, e⟩ := nI_of2 (M := 1) (n := 1) (by decide) (Int32.not_lt.mpr h.1) h.2
  exact ⟨k, by omega, e⟩
theorem MZ.w {m0 : xM} {v : Nat → Int32} {dx : Int64} {A : Nat → Nat → Int32} {LA : Nat → Nat → Int64} {s : Nat → Int32} (z x : Int32) : MZ m0 v dx A s (MS m0 (upd (upd v 25 z) 18 x) dx A LA s) := ⟨z, x, A 62, LA, by rw [up_id]⟩
def gHr (s : Nat → Int32) : Prop := ¬ 0 < s 0 ∨ (s 5 = 23 ∧ s 6 = 999)
/-- an act: it can be undone -/
def MAct (m0 : xM) (v : Nat → Int32) (dx : Int64) (A : Nat → Nat → Int32) (n : Nat) (s t : Nat → Int32) (m : xM) : Prop := ∃ f, MZ m0 (upd v 27 (nI (kN n))) dx (va_up A 61 f) t m ∧ ∀ H, HS (A 61) n H → HS f (kN n) (kH n H s)
theorem c_M_hour {d P Bn Fn Wn n : Nat} {rl : xRl} (hi : LI P Bn Fn Wn s) (hn : v 27 = nI n) (h20 : n ≤ 20) (hv : v 24 = 0 ∨ v 24 = 1) (hru : mRu v A rl) (hd : 6 ≤ d) : Cl d j_M_hour [.ref 50] (MS m0 v dx A LA s) (fun r m2 => (gHr s → r = some (.int (-1)) ∧ MZ m0 v dx A s m2) ∧ (¬ gHr s → r = some (.int (hP (evf v rl Bn Fn Wn) s)) ∧ MAct m0 v dx A n s (hS (evf v rl Bn Fn Wn) s) m2)) := by
  show Rn d j_M_hour 0 _ _ _ _
  refine Rn.step (pc' := 1) rfl rfl ?_
  refine Rn.vi (pc' := 4) rfl (by decide) (by omega) rfl rfl rfl (c_M_isLane) ?_
  refine Rn.ifp_eq (pc1 := 31) (pc2 := 7) rfl rfl rfl (fun h4 => ?_) (fun h4 => ?_)
  · refine Rn.iconst (v := (-1)) (pc' := 32) rfl (by decide) rfl ?_
    exact Rn.iret rfl (rfl) (⟨fun _ => ⟨rfl, MZ.of _ _ _ _ _ _⟩, fun hg => absurd (Or.inl h4) hg⟩)
  · refine Rn.step (pc' := 8) rfl rfl ?_
    refine Rn.getf (pc' := 11) rfl rfl rfl rfl rfl ?_
    refine Rn.iconst (v := 5) (pc' := 12) rfl (by decide) rfl ?_
    refine Rn.sald (k := 5) (pc' := 13) rfl rfl (by simp only [nI_lit, nI_add, pk_mul]) (by omega) (by decide) rfl ?_
    refine Rn.iconst (v := 23) (pc' := 15) rfl (by decide) rfl ?_
    refine Rn.icmp_ne (pc1 := 33) (pc2 := 18) rfl rfl rfl (fun h15 => ?_) (fun h15 => ?_)
    · obtain ⟨hl, hw⟩ := hi.lane h4
      refine Rn.step (pc' := 34) rfl rfl ?_
      refine Rn.callV (pc' := 37) rfl (by decide) (by omega) rfl rfl rfl (c_M_keepsAct hn h20) (fun r_ m_ hc_ => ?_)
      obtain ⟨rfl, f, rfl, hf⟩ := hc_
      refine Rn.step (pc' := 38) rfl rfl ?_
      refine Rn.callV (pc' := 41) rfl (by decide) (by omega) rfl rfl rfl (g_pass hl hw hv (hru.a rfl rfl rfl rfl) (by omega)) (fun r_ m_ hc_ => ?_)
      obtain ⟨rfl, x2, LA2, rfl⟩ := hc_
      exact Rn.iret rfl (rfl) (⟨fun hg => absurd hg (fun z => z.elim (fun c => c h4) (fun c => h15 c.1)), fun _ => ⟨rfl, f, MZ.w _ _, hf⟩⟩)
    · refine Rn.step (pc' := 19) rfl rfl ?_
      refine Rn.getf (pc' := 22) rfl rfl rfl rfl rfl ?_
      refine Rn.iconst (v := 6) (pc' := 24) rfl (by decide) rfl ?_
      refine Rn.sald (k := 6) (pc' := 25) rfl rfl (by simp only [nI_lit, nI_add, pk_mul]) (by omega) (by decide) rfl ?_
      refine Rn.iconst (v := 999) (pc' := 28) rfl (by decide) rfl ?_
      refine Rn.icmp_ne (pc1 := 33) (pc2 := 31) rfl rfl rfl (fun h28 => ?_) (fun h28 => ?_)
      · obtain ⟨hl, hw⟩ := hi.lane h4
        refine Rn.step (pc' := 34) rfl rfl ?_
        refine Rn.callV (pc' := 37) rfl (by decide) (by omega) rfl rfl rfl (c_M_keepsAct hn h20) (fun r_ m_ hc_ => ?_)
        obtain ⟨rfl, f, rfl, hf⟩ := hc_
        refine Rn.step (pc' := 38) rfl rfl ?_
        refine Rn.callV (pc' := 41) rfl (by decide) (by omega) rfl rfl rfl (g_pass hl hw hv (hru.a rfl rfl rfl rfl) (by omega)) (fun r_ m_ hc_ => ?_)
        obtain ⟨rfl, x2, LA2, rfl⟩ := hc_
        exact Rn.iret rfl (rfl) (⟨fun hg => absurd hg (fun z => z.elim (fun c => c h4) (fun c => h28 c.2)), fun _ => ⟨rfl, f, MZ.w _ _, hf⟩⟩)
      · refine Rn.iconst (v := (-1)) (pc' := 32) rfl (by decide) rfl ?_
        exact Rn.iret rfl (rfl) (⟨fun _ => ⟨rfl, MZ.of _ _ _ _ _ _⟩, fun hg => absurd (Or.inr ⟨h15, h28⟩) hg⟩)
/-- whether b can put the boot k on -/
abbrev gCw (s : Nat → Int32) (k b : Nat) : Prop := ¬ s (46 + 3 * k) = nI b ∧ ¬ s 1 < s (10 + 6 * b + 2) ∧ mPl s k = s (10 + 6 * b + 0)
theorem LI.wrr {P Bn : Nat} {s : Nat → Int32} (h : WD P Bn s) (hB : Bn ≤ 6) : ∀ k, k < 2 → s (46 + 3 * k) < 0 ∨ ∃ c, c < 6 ∧ s (46 + 3 * k) = nI c := fun k hk => by
  rcases h.wr k hk with e | ⟨c, hc, e⟩
  · exact Or.inl (by rw [e]; decide)
  · exact Or.inr ⟨c, by omega, e⟩
theorem c_M_canWear {d : Nat} (hd : 2 ≤ d) (k b : Nat) (hk : k < 2) (hb : b < 6) (hr : s (46 + 3 * k) < 0 ∨ ∃ c, c < 6 ∧ s (46 + 3 * k) = nI c) : Cl d j_M_canWear [.ref 50, .int (nI k), .int (nI b)] (MS m0 v dx A LA s) (Pi (if gCw s k b then 1 else 0) (MS m0 v dx A LA s)) := by
  show Rn d j_M_canWear 0 _ _ _ _
  refine Rn.step (pc' := 1) rfl rfl ?_
  refine Rn.step (pc' := 2) rfl rfl ?_
  refine Rn.vi (pc' := 5) rfl (by decide) (by omega) rfl rfl rfl (c_M_wearerOf k hk) ?_
  refine Rn.step (pc' := 6) rfl rfl ?_
  refine Rn.icmp_eq (pc1 := 35) (pc2 := 9) rfl rfl rfl (fun h6 => ?_) (fun h6 => ?_)
  · refine Rn.iconst (v := 0) (pc' := 36) rfl (by decide) rfl ?_
    exact Rn.reti rfl (by first | rfl | decide) ((if_neg (fun z => z.1 h6)).symm) (rfl)
  · refine Rn.step (pc' := 10) rfl rfl ?_
    refine Rn.step (pc' := 11) rfl rfl ?_
    refine Rn.vi (pc' := 14) rfl (by decide) (by omega) rfl rfl rfl (c_M_fits (by omega) b hb) ?_
    refine Rn.ifq_eq (pc1 := 35) (pc2 := 17) rfl rfl rfl (fun h14 => ?_) (fun h14 => ?_)
    · refine Rn.iconst (v := 0) (pc' := 36) rfl (by decide) rfl ?_
      exact Rn.reti rfl (by first | rfl | decide) ((if_neg (fun z => z.2.1 h14)).symm) (rfl)
    · refine Rn.step (pc' := 18) rfl rfl ?_
      refine Rn.step (pc' := 19) rfl rfl ?_
      refine Rn.vi (pc' := 22) rfl (by decide) (by omega) rfl rfl rfl (c_M_placeOf (by omega) k hk hr) ?_
      refine Rn.step (pc' := 23) rfl rfl ?_
      refine Rn.step (pc' := 24) rfl rfl ?_
      refine Rn.iconst (v := 0) (pc' := 25) rfl (by decide) rfl ?_
      refine Rn.vi (pc' := 28) rfl (by decide) (by omega) rfl rfl rfl (c_M_brotherOf b 0 (by omega)) ?_
      refine Rn.icmp_ne (pc1 := 35) (pc2 := 31) rfl rfl rfl (fun h28 => ?_) (fun h28 => ?_)
      · refine Rn.iconst (v := 0) (pc' := 36) rfl (by decide) rfl ?_
        exact Rn.reti rfl (by first | rfl | decide) ((if_neg (fun z => h28 z.2.2)).symm) (rfl)
      · refine Rn.iconst (v := 1) (pc' := 32) rfl (by decide) rfl ?_
        refine Rn.step (pc' := 36) rfl rfl ?_
        exact Rn.reti rfl (by first | rfl | decide) ((if_pos ⟨h6, h14, h28⟩).symm) (rfl)
def gWr (s : Nat → Int32) (x y : Int32) : Prop := ¬ (0 ≤ x ∧ x ≤ 1) ∨ ¬ (¬ y < 0 ∧ ¬ s 2 ≤ y) ∨ ¬ gCw s x.toNatClampNeg y.toNatClampNeg
theorem c_M_wear {d P Bn Fn Wn n : Nat} (hi : LI P Bn Fn Wn s) (hn : v 27 = nI n) (h20 : n ≤ 20) (hd : 3 ≤ d) (x y : Int32) : Cl d j_M_wear [.ref 50, .int x, .int y] (MS m0 v dx A LA s) (fun r m2 => (gWr s x y → r = some (.int (-2)) ∧ MZ m0 v dx A s m2) ∧ (¬ gWr s x y → r = some (.int (s (46 + 3 * x.toNatClampNeg))) ∧ MAct m0 v dx A n s (upd s (46 + 3 * x.toNatClampNeg) y) m2)) := by
  show Rn d j_M_wear 0 _ _ _ _
  refine Rn.step (pc' := 1) rfl rfl ?_
  refine Rn.i2l (pc' := 2) rfl rfl ?_
  refine Rn.ldc2 (v := 0) (pc' := 3) rfl (by decide) rfl ?_
  refine Rn.ldc2 (v := 1) (pc' := 4) rfl (by decide) rfl ?_
  refine Rn.si (pc' := 7) rfl (by decide) (by omega) rfl rfl (c_M_inI x 0 1 rfl rfl) ?_
  refine Rn.ifp_eq (pc1 := 27) (pc2 := 10) rfl rfl rfl (fun h7 => ?_) (fun h7 => ?_)
  · refine Rn.iconst (v := (-2)) (pc' := 29) rfl (by decide) rfl ?_
    exact Rn.iret rfl (rfl) (⟨fun _ => ⟨rfl, MZ.of _ _ _ _ _ _⟩, fun hg => absurd (Or.inl h7) hg⟩)
  · refine Rn.step (pc' := 11) rfl rfl ?_
    refine Rn.step (pc' := 12) rfl rfl ?_
    refine Rn.vi (pc' := 15) rfl (by decide) (by omega) rfl rfl rfl (c_M_isBrother y) ?_
    refine Rn.ifp_eq (pc1 := 27) (pc2 := 18) rfl rfl rfl (fun h15 => ?_) (fun h15 => ?_)
    · refine Rn.iconst (v := (-2)) (pc' := 29) rfl (by decide) rfl ?_
      exact Rn.iret rfl (rfl) (⟨fun _ => ⟨rfl, MZ.of _ _ _ _ _ _⟩, fun hg => absurd (Or.inr (Or.inl h15)) hg⟩)
    · obtain ⟨k, hk, rfl⟩ := x01 h7
      obtain ⟨h0, hl, hw, b, hb, rfl⟩ := hi.bro h15
      have hb6 := hl.b6
      have ek : (nI k).toNatClampNeg = k := nI_clamp (by omega)
      have eb : (nI b).toNatClampNeg = b := nI_clamp (by omega)
      refine Rn.step (pc' := 19) rfl rfl ?_
      refine Rn.step (pc' := 20) rfl rfl ?_
      refine Rn.step (pc' := 21) rfl rfl ?_
      refine Rn.vi (pc' := 24) rfl (by decide) (by omega) rfl rfl rfl (c_M_canWear (by omega) k b hk (by omega) (LI.wrr hw hl.b6 k hk)) ?_
      refine Rn.ifp_ne (pc1 := 30) (pc2 := 27) rfl rfl rfl (fun h24 => ?_) (fun h24 => ?_)
      · refine Rn.step (pc' := 31) rfl rfl ?_
        refine Rn.callV (pc' := 34) rfl (by decide) (by omega) rfl rfl rfl (c_M_keepsAct hn h20) (fun r_ m_ hc_ => ?_)
        obtain ⟨rfl, f, rfl, hf⟩ := hc_
        refine Rn.step (pc' := 35) rfl rfl ?_
        refine Rn.step (pc' := 36) rfl rfl ?_
        refine Rn.vi (pc' := 39) rfl (by decide) (by omega) rfl rfl rfl (c_M_wearerOf k hk) ?_
        refine Rn.step (pc' := 40) rfl rfl ?_
        refine Rn.step (pc' := 41) rfl rfl ?_
        refine Rn.step (pc' := 42) rfl rfl ?_
        refine Rn.step (pc' := 43) rfl rfl ?_
        refine Rn.vv (pc' := 46) rfl (by decide) (by omega) rfl rfl rfl (c_M_putsOn k (nI b) hk) ?_
        refine Rn.step (pc' := 47) rfl rfl ?_
        exact Rn.iret rfl (rfl) (⟨fun hg => absurd hg (fun z => z.elim (fun c => c h7) (fun z => z.elim (fun c => c h15) (fun c => by rw [ek, eb] at c; exact c h24))), fun _ => ⟨by rw [ek], f, by rw [ek]; exact MZ.of _ _ _ _ _ _, hf⟩⟩)
      · refine Rn.iconst (v := (-2)) (pc' := 29) rfl (by decide) rfl ?_
        exact Rn.iret rfl (rfl) (⟨fun _ => ⟨rfl, MZ.of _ _ _ _ _ _⟩, fun hg => absurd (Or.inr (Or.inr (by rw [ek, eb]; exact h24))) hg⟩)
def gOf (s : Nat → Int32) (x : Int32) : Prop := ¬ 0 < s 0 ∨ ¬ (0 ≤ x ∧ x ≤ 1) ∨ s (46 + 3 * x.toNatClampNeg) < 0
def offS (s : Nat → Int32) (k : Nat) : Nat → Int32 := upd (upd s (46 + 3 * k) (-1)) (46 + 3 * k + 1) (mPl s k)
theorem offS_pl (s : Nat → Int32) (k : Nat) : mPl (offS s k) k = mPl s k := by
  conv => lhs; unfold mPl
  unfold offS
  rw [upd_n _ _ (by omega), upd_s, upd_s, if_pos (by decide)]
theorem c_M_off {d P Bn Fn Wn n : Nat} (hi : LI P Bn Fn Wn s) (hn : v 27 = nI n) (h20 : n ≤ 20) (hd : 3 ≤ d) (x : Int32) : Cl d j_M_off [.ref 50, .int x] (MS m0 v dx A LA s) (fun r m2 => (gOf s x → r = some (.int (-1)) ∧ MZ m0 v dx A s m2) ∧ (¬ gOf s x → r = some (.int (mPl s x.toNatClampNeg)) ∧ MAct m0 v dx A n s (offS s x.toNatClampNeg) m2)) := by
  show Rn d j_M_off 0 _ _ _ _
  refine Rn.step (pc' := 1) rfl rfl ?_
  refine Rn.vi (pc' := 4) rfl (by decide) (by omega) rfl rfl rfl (c_M_isLane) ?_
  refine Rn.ifp_eq (pc1 := 25) (pc2 := 7) rfl rfl rfl (fun h4 => ?_) (fun h4 => ?_)
  · refine Rn.iconst (v := (-1)) (pc' := 26) rfl (by decide) rfl ?_
    exact Rn.iret rfl (rfl) (⟨fun _ => ⟨rfl, MZ.of _ _ _ _ _ _⟩, fun hg => absurd (Or.inl h4) hg⟩)
  · refine Rn.step (pc' := 8) rfl rfl ?_
    refine Rn.i2l (pc' := 9) rfl rfl ?_
    refine Rn.ldc2 (v := 0) (pc' := 10) rfl (by decide) rfl ?_
    refine Rn.ldc2 (v := 1) (pc' := 11) rfl (by decide) rfl ?_
    refine Rn.si (pc' := 14) rfl (by decide) (by omega) rfl rfl (c_M_inI x 0 1 rfl rfl) ?_
    refine Rn.ifp_eq (pc1 := 25) (pc2 := 17) rfl rfl rfl (fun h14 => ?_) (fun h14 => ?_)
    · refine Rn.iconst (v := (-1)) (pc' := 26) rfl (by decide) rfl ?_
      exact Rn.iret rfl (rfl) (⟨fun _ => ⟨rfl, MZ.of _ _ _ _ _ _⟩, fun hg => absurd (Or.inr (Or.inl h14)) hg⟩)
    · obtain ⟨k, hk, rfl⟩ := x01 h14
      obtain ⟨hl, hw⟩ := hi.lane h4
      have ek : (nI k).toNatClampNeg = k := nI_clamp (by omega)
      refine Rn.step (pc' := 18) rfl rfl ?_
      refine Rn.step (pc' := 19) rfl rfl ?_
      refine Rn.vi (pc' := 22) rfl (by decide) (by omega) rfl rfl rfl (c_M_wearerOf k hk) ?_
      refine Rn.ifc_ge (pc1 := 27) (pc2 := 25) rfl rfl rfl (fun h22 => ?_) (fun h22 => ?_)
      · refine Rn.step (pc' := 28) rfl rfl ?_
        refine Rn.callV (pc' := 31) rfl (by decide) (by omega) rfl rfl rfl (c_M_keepsAct hn h20) (fun r_ m_ hc_ => ?_)
        obtain ⟨rfl, f, rfl, hf⟩ := hc_
        refine Rn.step (pc' := 32) rfl rfl ?_
        refine Rn.step (pc' := 33) rfl rfl ?_
        refine Rn.step (pc' := 34) rfl rfl ?_
        refine Rn.step (pc' := 35) rfl rfl ?_
        refine Rn.vi (pc' := 38) rfl (by decide) (by omega) rfl rfl rfl (c_M_placeOf (by omega) k hk (LI.wrr hw hl.b6 k hk)) ?_
        refine Rn.vv (pc' := 41) rfl (by decide) (by omega) rfl rfl rfl (c_M_takesOff k (mPl s k) hk) ?_
        refine Rn.step (pc' := 42) rfl rfl ?_
        refine Rn.step (pc' := 43) rfl rfl ?_
        refine Rn.vi (pc' := 46) rfl (by decide) (by omega) rfl rfl rfl (c_M_placeOf (s := offS s k) (by omega) k hk (Or.inl (by unfold offS; rw [upd_n _ _ (by omega), upd_s]; decide))) ?_
        exact Rn.iret rfl (rfl) (⟨fun hg => absurd hg (fun z => z.elim (fun c => c h4) (fun z => z.elim (fun c => c h14) (fun c => by rw [ek] at c; exact absurd h22 (Int32.not_le.mpr c)))), fun _ => ⟨by rw [ek, offS_pl], f, by rw [ek]; exact MZ.of _ _ _ _ _ _, hf⟩⟩)
      · refine Rn.iconst (v := (-1)) (pc' := 26) rfl (by decide) rfl ?_
        exact Rn.iret rfl (rfl) (⟨fun _ => ⟨rfl, MZ.of _ _ _ _ _ _⟩, fun hg => absurd (Or.inr (Or.inr (by rw [ek]; exact Int32.not_le.mp h22))) hg⟩)
/-- what the first k have earned -/
def mEa (s : Nat → Int32) : Nat → Int32
  | 0 => 0
  | k + 1 => mEa s k + s (10 + 6 * k + 5)
theorem l_M_earnedAll {d : Nat} {Bn : Nat} (hB : s 2 = nI Bn) (hB6 : Bn ≤ 6) (hd : 1 ≤ d) (k : Nat) (hk : k ≤ Bn) : Rn d j_M_earnedAll 4 [.ref 50, .int (mEa s k), .int (nI k)] [] (MS m0 v dx A LA s) (Pi (mEa s Bn) (MS m0 v dx A LA s)) := by
  refine Rn.step (pc' := 5) rfl rfl ?_
  refine Rn.step (pc' := 6) rfl rfl ?_
  refine Rn.getf (pc' := 9) rfl rfl rfl rfl rfl ?_
  refine Rn.iconst (v := 2) (pc' := 10) rfl (by decide) rfl ?_
  refine Rn.sald (k := 2) (pc' := 11) rfl rfl (by simp only [nI_lit, nI_add, pk_mul]) (by omega) (by decide) rfl ?_
  refine Rn.icmp_ge (pc1 := 29) (pc2 := 14) rfl rfl rfl (fun h11 => ?_) (fun h11 => ?_)
  · obtain rfl := nI_up (by omega) hk (hB ▸ h11)
    refine Rn.step (pc' := 30) rfl rfl ?_
    exact Rn.reti rfl (rfl) (rfl) (rfl)
  · have hk2 := nI_dn (by omega) hk (hB ▸ h11)
    refine Rn.step (pc' := 15) rfl rfl ?_
    refine Rn.step (pc' := 16) rfl rfl ?_
    refine Rn.step (pc' := 17) rfl rfl ?_
    refine Rn.iconst (v := 5) (pc' := 18) rfl (by decide) rfl ?_
    refine Rn.vi (pc' := 21) rfl (by decide) (by omega) rfl rfl rfl (c_M_brotherOf k 5 (by omega)) ?_
    refine Rn.iadd (pc' := 22) rfl rfl ?_
    refine Rn.step (pc' := 23) rfl rfl ?_
    refine Rn.step (pc' := 26) rfl rfl ?_
    refine Rn.step (pc' := 4) rfl rfl ?_
    exact Rn.ls3 rfl rfl (congrArg Value.int (nI_i1 k)) (l_M_earnedAll hB hB6 hd (k + 1) (by omega))
termination_by Bn - k
theorem c_M_earnedAll {d : Nat} (hd : 1 ≤ d) {Bn : Nat} (hB : s 2 = nI Bn) (hB6 : Bn ≤ 6) : Cl d j_M_earnedAll [.ref 50] (MS m0 v dx A LA s) (Pi (mEa s Bn) (MS m0 v dx A LA s)) := by
  show Rn d j_M_earnedAll 0 _ _ _ _
  refine Rn.iconst (v := 0) (pc' := 1) rfl (by decide) rfl ?_
  refine Rn.step (pc' := 2) rfl rfl ?_
  refine Rn.iconst (v := 0) (pc' := 3) rfl (by decide) rfl ?_
  refine Rn.step (pc' := 4) rfl rfl ?_
  exact l_M_earnedAll hB hB6 hd 0 (by omega)
def gCo (s : Nat → Int32) (Bn : Nat) (x : Int32) : Prop := ¬ 0 < s 0 ∨ ¬ (0 ≤ x ∧ x ≤ 1) ∨ s (46 + 3 * x.toNatClampNeg + 2) = 0 ∨ mEa s Bn - s 7 < 10
def coS (s : Nat → Int32) (k : Nat) : Nat → Int32 := upd (upd s (46 + 3 * k + 2) 0) 7 (upd s (46 + 3 * k + 2) 0 7 + 10)
theorem coS_ea (s : Nat → Int32) {k : Nat} (hk : k < 2) : ∀ n, n ≤ 6 → mEa (coS s k) n = mEa s n
  | 0, _ => rfl
  | n + 1, hn => by
    rw [mEa, mEa, coS_ea s hk n (by omega)]
    unfold coS
    rw [upd_n _ _ (by omega), upd_n _ _ (by omega)]
theorem c_M_cobble {d P Bn Fn Wn n : Nat} (hi : LI P Bn Fn Wn s) (hn : v 27 = nI n) (h20 : n ≤ 20) (hd : 3 ≤ d) (x : Int32) : Cl d j_M_cobble [.ref 50, .int x] (MS m0 v dx A LA s) (fun r m2 => (gCo s Bn x → r = some (.int (-1)) ∧ MZ m0 v dx A s m2) ∧ (¬ gCo s Bn x → r = some (.int (mEa s Bn - (s 7 + 10))) ∧ MAct m0 v dx A n s (coS s x.toNatClampNeg) m2)) := by
  show Rn d j_M_cobble 0 _ _ _ _
  refine Rn.step (pc' := 1) rfl rfl ?_
  refine Rn.vi (pc' := 4) rfl (by decide) (by omega) rfl rfl rfl (c_M_isLane) ?_
  refine Rn.ifp_eq (pc1 := 42) (pc2 := 7) rfl rfl rfl (fun h4 => ?_) (fun h4 => ?_)
  · refine Rn.iconst (v := (-1)) (pc' := 43) rfl (by decide) rfl ?_
    exact Rn.iret rfl (rfl) (⟨fun _ => ⟨rfl, MZ.of _ _ _ _ _ _⟩, fun hg => absurd (Or.inl h4) hg⟩)
  · refine Rn.step (pc' := 8) rfl rfl ?_
    refine Rn.i2l (pc' := 9) rfl rfl ?_
    refine Rn.ldc2 (v := 0) (pc' := 10) rfl (by decide) rfl ?_
    refine Rn.ldc2 (v := 1) (pc' := 11) rfl (by decide) rfl ?_
    refine Rn.si (pc' := 14) rfl (by decide) (by omega) rfl rfl (c_M_inI x 0 1 rfl rfl) ?_
    refine Rn.ifp_eq (pc1 := 42) (pc2 := 17) rfl rfl rfl (fun h14 => ?_) (fun h14 => ?_)
    · refine Rn.iconst (v := (-1)) (pc' := 43) rfl (by decide) rfl ?_
      exact Rn.iret rfl (rfl) (⟨fun _ => ⟨rfl, MZ.of _ _ _ _ _ _⟩, fun hg => absurd (Or.inr (Or.inl h14)) hg⟩)
    · obtain ⟨k, hk, rfl⟩ := x01 h14
      obtain ⟨hl, hw⟩ := hi.lane h4
      have ek : (nI k).toNatClampNeg = k := nI_clamp (by omega)
      refine Rn.step (pc' := 18) rfl rfl ?_
      refine Rn.step (pc' := 19) rfl rfl ?_
      refine Rn.vi (pc' := 22) rfl (by decide) (by omega) rfl rfl rfl (c_M_wornOf k hk) ?_
      refine Rn.ifc_eq (pc1 := 42) (pc2 := 25) rfl rfl rfl (fun h22 => ?_) (fun h22 => ?_)
      · refine Rn.iconst (v := (-1)) (pc' := 43) rfl (by decide) rfl ?_
        exact Rn.iret rfl (rfl) (⟨fun _ => ⟨rfl, MZ.of _ _ _ _ _ _⟩, fun hg => absurd (Or.inr (Or.inr (Or.inl (by rw [ek]; exact h22)))) hg⟩)
      · refine Rn.step (pc' := 26) rfl rfl ?_
        refine Rn.vi (pc' := 29) rfl (by decide) (by omega) rfl rfl rfl (c_M_earnedAll (by omega) hl.b hl.b6) ?_
        refine Rn.step (pc' := 30) rfl rfl ?_
        refine Rn.getf (pc' := 33) rfl rfl rfl rfl rfl ?_
        refine Rn.iconst (v := 7) (pc' := 35) rfl (by decide) rfl ?_
        refine Rn.sald (k := 7) (pc' := 36) rfl rfl (by simp only [nI_lit, nI_add, pk_mul]) (by omega) (by decide) rfl ?_
        refine Rn.isub (pc' := 37) rfl rfl ?_
        refine Rn.iconst (v := 10) (pc' := 39) rfl (by decide) rfl ?_
        refine Rn.icmp_ge (pc1 := 44) (pc2 := 42) rfl rfl rfl (fun h39 => ?_) (fun h39 => ?_)
        · refine Rn.step (pc' := 45) rfl rfl ?_
          refine Rn.callV (pc' := 48) rfl (by decide) (by omega) rfl rfl rfl (c_M_keepsAct hn h20) (fun r_ m_ hc_ => ?_)
          obtain ⟨rfl, f, rfl, hf⟩ := hc_
          refine Rn.step (pc' := 49) rfl rfl ?_
          refine Rn.getf (pc' := 52) rfl rfl rfl rfl rfl ?_
          refine Rn.iconst (v := 46) (pc' := 54) rfl (by decide) rfl ?_
          refine Rn.iconst (v := 3) (pc' := 55) rfl (by decide) rfl ?_
          refine Rn.step (pc' := 56) rfl rfl ?_
          refine Rn.imul (pc' := 57) rfl rfl ?_
          refine Rn.iadd (pc' := 58) rfl rfl ?_
          refine Rn.iconst (v := 2) (pc' := 59) rfl (by decide) rfl ?_
          refine Rn.iadd (pc' := 60) rfl rfl ?_
          refine Rn.iconst (v := 0) (pc' := 61) rfl (by decide) rfl ?_
          refine Rn.sast (k := 46 + 3 * k + 2) (pc' := 62) rfl rfl (by simp only [nI_lit, nI_add, pk_mul]) (by omega) (by decide) rfl ?_
          refine Rn.step (pc' := 63) rfl rfl ?_
          refine Rn.getf (pc' := 66) rfl rfl rfl rfl rfl ?_
          refine Rn.iconst (v := 7) (pc' := 68) rfl (by decide) rfl ?_
          refine Rn.step (pc' := 69) rfl rfl ?_
          refine Rn.sald (k := 7) (pc' := 70) rfl rfl (by simp only [nI_lit, nI_add, pk_mul]) (by omega) (by decide) rfl ?_
          refine Rn.iconst (v := 10) (pc' := 72) rfl (by decide) rfl ?_
          refine Rn.iadd (pc' := 73) rfl rfl ?_
          refine Rn.sast (k := 7) (pc' := 74) rfl rfl (by simp only [nI_lit, nI_add, pk_mul]) (by omega) (by decide) rfl ?_
          refine Rn.step (pc' := 75) rfl rfl ?_
          refine Rn.vi (pc' := 78) rfl (by decide) (by omega) rfl rfl rfl (c_M_earnedAll (s := coS s k) (Bn := Bn) (by omega) (by unfold coS; rw [upd_n _ _ (by omega), upd_n _ _ (by omega)]; exact hl.b) hl.b6) ?_
          refine Rn.step (pc' := 79) rfl rfl ?_
          refine Rn.getf (pc' := 82) rfl rfl rfl rfl rfl ?_
          refine Rn.iconst (v := 7) (pc' := 84) rfl (by decide) rfl ?_
          refine Rn.sald (k := 7) (pc' := 85) rfl rfl (by simp only [nI_lit, nI_add, pk_mul]) (by omega) (by decide) rfl ?_
          refine Rn.isub (pc' := 86) rfl rfl ?_
          exact Rn.iret rfl (rfl) (⟨fun hg => absurd hg (fun z => z.elim (fun c => c h4) (fun z => z.elim (fun c => c h14) (fun z => z.elim (fun c => by rw [ek] at c; exact h22 c) (fun c => absurd h39 (Int32.not_le.mpr c))))), fun _ => ⟨by
              rw [coS_ea s hk Bn hl.b6]
              refine congrArg (fun z => some (Value.int (mEa s Bn - z))) ?_
              unfold coS
              rw [upd_s, upd_n _ _ (show 7 ≠ 46 + 3 * k + 2 by omega)], f, by rw [ek]; exact MZ.of _ _ _ _ _ _, hf⟩⟩)
        · refine Rn.iconst (v := (-1)) (pc' := 43) rfl (by decide) rfl ?_
          exact Rn.iret rfl (rfl) (⟨fun _ => ⟨rfl, MZ.of _ _ _ _ _ _⟩, fun hg => absurd (Or.inr (Or.inr (Or.inr (Int32.not_le.mp h39)))) hg⟩)
end MB
