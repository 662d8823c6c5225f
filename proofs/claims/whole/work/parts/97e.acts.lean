/-! BOTH: acts, undo, print. -/
section NS2
variable {b : xM} {v : Nat → Int32} {dx : Int64} {A : Nat → Nat → Int32} {LA : Nat → Nat → Int64} {s : Nat → Int32} {F I : Nat → Nat → Int32} {L : Nat → Nat → Int64} {R : Nat → Nat → Option Nat} {H : Value} {N P Bn Fn Wn K rn n nx tl : Nat} {rl : xRl} {Hs : Nat → Nat → Int32} {Gs : Nat → Nat → Nat → Int32} {M : xM} {sc : Nat → Int32} {Ls : Nat}
/-- what an act leaves -/
theorem IV0.act {F1 I1 A1 : Nat → Nat → Int32} {v1 t : Nat → Int32} {nx1 : Nat} {f : Nat → Int32} (h : IV0 N b v A s F I R P Bn Fn Wn K rn n nx tl rl Hs Gs) (h0 : 0 < s 0) (hx : FX s t) (hw : WD P Bn t) (hd : DB t (N + 1)) (hF : aF F F1) (hI : aI I I1) (hr : WR True Bn t (I1 9)) (hp : PA (kN n) nx1 (kH n Hs s) Bn (F1 10) (I1 11)) (hv : ∀ i, i ≠ 18 → i ≠ 25 → i ≠ 27 → v1 i = v i) (h27 : v1 27 = nI (kN n)) (hA : ∀ k, k ≠ 60 → k ≠ 61 → k ≠ 62 → A1 k = A k) (hH : HS (A1 61) (kN n) (kH n Hs s)) : IV0 (N + 1) b v1 A1 t F1 I1 R P Bn Fn Wn K rn (kN n) nx1 tl rl (kH n Hs s) Gs := by
  have hh := h
  obtain ⟨⟨t1, t2, t3, t4, t5⟩, ⟨a1, a2, a3, a4, a5, a6⟩, ⟨c1, c2, c3, c4, c5, c6, c7, c8, c9⟩, ⟨p1, p2, p3, p4⟩, e, fi, g, r⟩ := h
  obtain ⟨wl, wd⟩ := a1.lane h0
  have sv : ∀ i, i = 1 ∨ i = 2 ∨ i = 21 ∨ i = 22 ∨ i = 23 ∨ i = 24 → v1 i = v i := fun i hi => hv i (by omega) (by omega) (by omega)
  have sA : ∀ i, i = 51 ∨ i = 52 ∨ i = 54 ∨ i = 55 ∨ i = 65 ∨ i = 66 ∨ i = 67 ∨ i = 68 → A1 i = A i := fun i hi => hA i (by omega) (by omega) (by omega)
  have f0 := hF 0 (by omega)
  have f1 := hF 1 (by omega)
  have f12 := hF 12 (by omega)
  have f17 := hF 17 (by omega)
  have i2 := hI 2 (by omega)
  have i13 := hI 13 (by omega)
  have t0 : t 0 = s 0 := hx 0 (by unfold fxc; omega)
  refine ⟨⟨(sv 1 (by omega)).trans t1, by rw [f1]; exact t2, t3, by rw [sA 51 (by omega), i2]; exact t4, by rw [i2]; exact t5⟩, ⟨Or.inl ⟨by rw [t0]; exact h0, wl.fx hx, hw⟩, ?_, a3.fx hx, hr, by rw [f12, i13]; exact a5.fx hx, hd⟩, ?_, ⟨h27, hH, hp, fun i hi => ?_⟩, ?_, ?_, g, r⟩
  · have := a2.fx wl.b6 hx
    unfold LR at this ⊢
    rw [f17, hI 18 (by omega), hI 19 (by omega), hI 20 (by omega), hI 21 (by omega), hI 22 (by omega)]
    exact this
  · show v1 2 = nI rn ∧ F1 0 12 = nI rn ∧ rn ≤ 6 ∧ v1 21 = F1 0 13 ∧ vFo rn (F1 0 13) ∧ v1 22 = F1 0 14 ∧ 0 ≤ F1 0 14 ∧ v1 23 = -1 ∧ v1 24 = 0
    rw [f0]
    exact ⟨(sv 2 (by omega)).trans c1, c2, c3, (sv 21 (by omega)).trans c4, c5, (sv 22 (by omega)).trans c6, c7, (sv 23 (by omega)).trans c8, (sv 24 (by omega)).trans c9⟩
  · have hs1 : 0 < t 0 ∧ WD P Bn s ∧ (∀ k, k < 52 → fxc k → s k = t k) ∧ DB s (N + 1) := ⟨by rw [t0]; exact h0, wd, fun k _ hk => (hx k hk).symm, a6.up (Nat.le_succ N)⟩
    have hs2 : ∀ j, j < n → 0 < t 0 ∧ WD P Bn (Hs j) ∧ (∀ k, k < 52 → fxc k → Hs j k = t k) ∧ DB (Hs j) (N + 1) := fun j hj => by
      obtain ⟨_, q2, q3, q4⟩ := p4 j hj
      exact ⟨by rw [t0]; exact h0, q2, fun k hk1 hk2 => (q3 k hk1 hk2).trans (hx k hk2).symm, q4.up (Nat.le_succ N)⟩
    have h20 : n ≤ 20 := p3.2.2.2.1
    unfold kN at hi
    unfold kH
    by_cases e20 : n = 20
    · rw [if_pos e20] at hi ⊢
      by_cases e19 : i = 19
      · subst e19
        show 0 < t 0 ∧ WD P Bn (if 19 = 19 then s else Hs (19 + 1)) ∧ (∀ k, k < 52 → fxc k → (if 19 = 19 then s else Hs (19 + 1)) k = t k) ∧ DB (if 19 = 19 then s else Hs (19 + 1)) (N + 1)
        rw [if_pos rfl]
        exact hs1
      · show 0 < t 0 ∧ WD P Bn (if i = 19 then s else Hs (i + 1)) ∧ (∀ k, k < 52 → fxc k → (if i = 19 then s else Hs (i + 1)) k = t k) ∧ DB (if i = 19 then s else Hs (i + 1)) (N + 1)
        rw [if_neg e19]
        exact hs2 (i + 1) (by omega)
    · rw [if_neg e20] at hi ⊢
      by_cases en : i = n
      · show 0 < t 0 ∧ WD P Bn (if i = n then s else Hs i) ∧ (∀ k, k < 52 → fxc k → (if i = n then s else Hs i) k = t k) ∧ DB (if i = n then s else Hs i) (N + 1)
        rw [if_pos en]
        exact hs1
      · show 0 < t 0 ∧ WD P Bn (if i = n then s else Hs i) ∧ (∀ k, k < 52 → fxc k → (if i = n then s else Hs i) k = t k) ∧ DB (if i = n then s else Hs i) (N + 1)
        rw [if_neg en]
        exact hs2 i (by omega)
  · intro x hx2
    exact ⟨RuW.eq (e x hx2).1 (sA 52 (by omega)) (sA 54 (by omega)) (sA 55 (by omega)), (e x hx2).2⟩
  · intro k hk
    rw [sA 65 (by omega), sA 66 (by omega), sA 67 (by omega), sA 68 (by omega)]
    exact (vIm.up fi (Nat.le_succ N)) k hk
/-- an act -/
theorem bth_a {jO jM : Nat} {as : List Value} {g : Prop} {X Y Y' : Int32} {t t' : Nat → Int32} (h : IV0 N b v A s F I R P Bn Fn Wn K rn n nx tl rl Hs Gs) (hs : b.2.2 (xS + 60) = some (.inl (0, Ls, xints sc)))
    (hO : Cl 59 jO (.ref 0 :: as) (CC (MS b v dx A LA s) F I L R H) (fun o m2 => (g → o = some (.int X) ∧ QG (MS b v dx A LA s) F I R m2) ∧ (¬ g → o = some (.int Y) ∧ AC (MS b v dx A LA s) F I R Bn n Hs s t m2)))
    (hM : ∀ m0, Cl 59 jM (.ref 50 :: as) (MS m0 v dx A LA s) (fun o m2 => (g → o = some (.int X) ∧ MZ m0 v dx A s m2) ∧ (¬ g → o = some (.int Y') ∧ MAct m0 v dx A n s t' m2)))
    (hY : Y' = Y) (ht : t' = t) (hg : ¬ g → 0 < s 0 ∧ FX s t ∧ WD P Bn t ∧ DB t (N + 1)) : BTH sc Ls N jO jM as (CC (MS b v dx A LA s) F I L R H) := by
  subst hY ht
  refine Cl.conseq hO ?_
  rintro o m ⟨h1, h2⟩
  by_cases hgg : g
  · obtain ⟨rfl, F1, I1, L1, H1, rfl, qf, qi⟩ := h1 hgg
    refine ⟨_, rfl, okM_of hs, ?_⟩
    rw [CC_MM]
    refine Cl.conseq (hM (CC b F1 I1 L1 R H1)) ?_
    rintro o2 m2 ⟨k1, _⟩
    obtain ⟨rfl, z, x, kp, LA', rfl⟩ := k1 hgg
    refine ⟨rfl, b, _, dx, _, LA', s, F1, I1, L1, R, H1, P, Bn, Fn, Wn, K, rn, n, nx, tl, rl, Hs, Gs, (CC_MM _ _ _ _ _ _ _ _ _ _).symm, hs, h.q qf qi (fun i hi => ?_) (fun k hk => ?_)⟩
    · unfold scr at hi
      rw [upN _ _ (by omega), upN _ _ (by omega)]
    · unfold sca at hk
      exact up_ne _ _ (by omega)
  · obtain ⟨rfl, F1, I1, L1, H1, nx1, rfl, af, ai, wr, pa⟩ := h2 hgg
    refine ⟨_, rfl, okM_of hs, ?_⟩
    rw [CC_MM]
    refine Cl.conseq (hM (CC b F1 I1 L1 R H1)) ?_
    rintro o2 m2 ⟨_, k2⟩
    obtain ⟨rfl, f, ⟨z, x, kp, LA', rfl⟩, hH⟩ := k2 hgg
    obtain ⟨g0, g1, g2, g3⟩ := hg hgg
    refine ⟨rfl, b, _, dx, _, LA', t', F1, I1, L1, R, H1, P, Bn, Fn, Wn, K, rn, kN n, nx1, tl, rl, kH n Hs s, Gs, (CC_MM _ _ _ _ _ _ _ _ _ _).symm, hs, h.act (f := f) g0 g1 g2 g3 af ai wr pa (fun i i1 i2 i3 => ?_) rfl (fun k k1 k2 k3 => ?_) (hH Hs h.2.2.2.1.2.1)⟩
    · rw [upN _ _ i1, upN _ _ i2, upN _ _ i3]
    · rw [up_ne _ _ k3, up_ne _ _ k2]
theorem b_hour (h : INV N sc Ls M) (hN : N ≤ 550) : BTH sc Ls N j_O_hour j_M_hour [] M := by
  obtain ⟨b, v, dx, A, LA, s, F, I, L, R, H, P, Bn, Fn, Wn, K, rn, n, nx, tl, rl, Hs, Gs, rfl, hs, h⟩ := h
  have ob := h.ob hN (dx := dx) (LA := LA)
  have hi := ob.li
  have hru := h.ru
  have he := h.ev
  have hv : v 24 = 0 ∨ v 24 = 1 := Or.inl h.2.2.1.2.2.2.2.2.2.2.2
  have hpr := ob.pr
  have hpa := h.2.2.2.1.2.2.1
  have h20 : n ≤ 20 := hpa.2.2.2.1
  have h27 := h.2.2.2.1.1
  refine bth_a h hs (c_O_hour (by omega) ob hpa) (fun m0 => c_M_hour hi h27 h20 hv hru (by omega)) (by rw [he]) (by rw [he]) (fun g => ?_)
  unfold gHr at g
  have h0 : 0 < s 0 := Classical.byContradiction fun z => g (Or.inl z)
  obtain ⟨wl, wd⟩ := hi.lane h0
  have := mPs_w (E := (F 0 13, rl, -1, 0, Bn, Fn, Wn)) 0 wl wd
  exact ⟨h0, this.1, this.2, DB.hour (E := (F 0 13, rl, -1, 0, Bn, Fn, Wn)) h.2.1.2.2.2.2.2 wl⟩
theorem b_wear (h : INV N sc Ls M) (hN : N ≤ 550) (x y : Int32) : BTH sc Ls N j_O_wear j_M_wear [.int x, .int y] M := by
  obtain ⟨b, v, dx, A, LA, s, F, I, L, R, H, P, Bn, Fn, Wn, K, rn, n, nx, tl, rl, Hs, Gs, rfl, hs, h⟩ := h
  have ob := h.ob hN (dx := dx) (LA := LA)
  have hi := ob.li
  have hru := h.ru
  have he := h.ev
  have hv : v 24 = 0 ∨ v 24 = 1 := Or.inl h.2.2.1.2.2.2.2.2.2.2.2
  have hpr := ob.pr
  have hpa := h.2.2.2.1.2.2.1
  have h20 : n ≤ 20 := hpa.2.2.2.1
  have h27 := h.2.2.2.1.1
  refine bth_a h hs (c_O_wear (by omega) ob hpa x y) (fun m0 => c_M_wear hi h27 h20 (by omega) x y) rfl rfl (fun g => ?_)
  unfold gWr at g
  have g1 : 0 ≤ x ∧ x ≤ 1 := Classical.byContradiction fun z => g (Or.inl z)
  have g2 : ¬ y < 0 ∧ ¬ s 2 ≤ y := Classical.byContradiction fun z => g (Or.inr (Or.inl z))
  obtain ⟨h0, wl, wd, c, hc, rfl⟩ := hi.bro g2
  obtain ⟨k, hk, rfl⟩ := xN (lo := 0) (hi := 1) (n := 1) (by decide) (by decide) g1
  rw [nI_clamp (by omega)]
  refine ⟨h0, FX.up _ _ _ (by unfold fxc; omega), ?_, ?_⟩
  · refine ⟨?_, fun d hd => ?_, fun d hd => ?_, fun d hd => ?_, fun j hj => ?_⟩
    · rw [upN _ _ (by omega)]
      exact wd.hr
    · have := wl.b6
      rw [upN _ _ (by omega)]
      exact wd.pl d hd
    · have := wl.b6
      rw [upN _ _ (by omega), upN _ _ (by omega)]
      exact wd.ch d hd
    · have := wl.b6
      rw [upN _ _ (by omega)]
      exact wd.fz d hd
    · by_cases e : j = k
      · subst e
        rw [upS]
        exact Or.inr ⟨c, hc, rfl⟩
      · rw [upN _ _ (by omega)]
        exact wd.wr j hj
  · obtain ⟨D, h1, h2⟩ := h.2.1.2.2.2.2.2
    exact ⟨D, by omega, by rw [upN _ _ (by omega)]; exact h2⟩
theorem b_off (h : INV N sc Ls M) (hN : N ≤ 550) (x : Int32) : BTH sc Ls N j_O_off j_M_off [.int x] M := by
  obtain ⟨b, v, dx, A, LA, s, F, I, L, R, H, P, Bn, Fn, Wn, K, rn, n, nx, tl, rl, Hs, Gs, rfl, hs, h⟩ := h
  have ob := h.ob hN (dx := dx) (LA := LA)
  have hi := ob.li
  have hru := h.ru
  have he := h.ev
  have hv : v 24 = 0 ∨ v 24 = 1 := Or.inl h.2.2.1.2.2.2.2.2.2.2.2
  have hpr := ob.pr
  have hpa := h.2.2.2.1.2.2.1
  have h20 : n ≤ 20 := hpa.2.2.2.1
  have h27 := h.2.2.2.1.1
  refine bth_a h hs (c_O_off (by omega) ob hpa x) (fun m0 => c_M_off hi h27 h20 (by omega) x) rfl rfl (fun g => ?_)
  unfold gOf at g
  have h0 : 0 < s 0 := Classical.byContradiction fun z => g (Or.inl z)
  have g1 : 0 ≤ x ∧ x ≤ 1 := Classical.byContradiction fun z => g (Or.inr (Or.inl z))
  obtain ⟨wl, wd⟩ := hi.lane h0
  obtain ⟨k, hk, rfl⟩ := xN (lo := 0) (hi := 1) (n := 1) (by decide) (by decide) g1
  rw [nI_clamp (by omega)]
  unfold offS
  have hb6 := wl.b6
  refine ⟨h0, (FX.up _ _ _ (by unfold fxc; omega)).trans (FX.up _ _ _ (by unfold fxc; omega)), ?_, ?_⟩
  · refine ⟨?_, fun d hd => ?_, fun d hd => ?_, fun d hd => ?_, fun j hj => ?_⟩
    · rw [upN _ _ (by omega), upN _ _ (by omega)]
      exact wd.hr
    · rw [upN _ _ (by omega), upN _ _ (by omega)]
      exact wd.pl d hd
    · rw [upN _ _ (by omega), upN _ _ (by omega), upN _ _ (by omega), upN _ _ (by omega)]
      exact wd.ch d hd
    · rw [upN _ _ (by omega), upN _ _ (by omega)]
      exact wd.fz d hd
    · rw [upN _ _ (by omega)]
      by_cases e : j = k
      · subst e
        rw [upS]
        exact Or.inl rfl
      · rw [upN _ _ (by omega)]
        exact wd.wr j hj
  · obtain ⟨D, h1, h2⟩ := h.2.1.2.2.2.2.2
    exact ⟨D, by omega, by rw [upN _ _ (by omega), upN _ _ (by omega)]; exact h2⟩
theorem b_cobble (h : INV N sc Ls M) (hN : N ≤ 550) (x : Int32) : BTH sc Ls N j_O_cobble j_M_cobble [.int x] M := by
  obtain ⟨b, v, dx, A, LA, s, F, I, L, R, H, P, Bn, Fn, Wn, K, rn, n, nx, tl, rl, Hs, Gs, rfl, hs, h⟩ := h
  have ob := h.ob hN (dx := dx) (LA := LA)
  have hi := ob.li
  have hru := h.ru
  have he := h.ev
  have hv : v 24 = 0 ∨ v 24 = 1 := Or.inl h.2.2.1.2.2.2.2.2.2.2.2
  have hpr := ob.pr
  have hpa := h.2.2.2.1.2.2.1
  have h20 : n ≤ 20 := hpa.2.2.2.1
  have h27 := h.2.2.2.1.1
  refine bth_a h hs (c_O_cobble (by omega) ob hpa x) (fun m0 => c_M_cobble hi h27 h20 (by omega) x) rfl rfl (fun g => ?_)
  unfold gCo at g
  have h0 : 0 < s 0 := Classical.byContradiction fun z => g (Or.inl z)
  have g1 : 0 ≤ x ∧ x ≤ 1 := Classical.byContradiction fun z => g (Or.inr (Or.inl z))
  obtain ⟨wl, wd⟩ := hi.lane h0
  obtain ⟨k, hk, rfl⟩ := xN (lo := 0) (hi := 1) (n := 1) (by decide) (by decide) g1
  rw [nI_clamp (by omega)]
  unfold coS
  have hb6 := wl.b6
  refine ⟨h0, (FX.up _ _ _ (by unfold fxc; omega)).trans (FX.up _ _ _ (by unfold fxc; omega)), (wd.up hb6 _ _ (by unfold wdc; omega)).up hb6 _ _ (by unfold wdc; omega), ?_⟩
  obtain ⟨D, h1, h2⟩ := h.2.1.2.2.2.2.2
  exact ⟨D, by omega, by rw [upN _ _ (by omega), upN _ _ (by omega)]; exact h2⟩
theorem WR.low {gg : Prop} {w t : Nat → Int32} (h : WR gg Bn s w) (hB : Bn ≤ 6) (e : ∀ i, i < 52 → t i = s i) : WR gg Bn t w := by
  refine ⟨fun c hc => ?_, fun c hc => ?_, fun c hc => ?_, fun c hc => ?_, fun c hc => ?_, fun c hc hl => ?_, fun c hc => ?_, ?_, ?_, fun hg => ?_, fun c h1 h2 => h.z c h1 h2⟩
  · rw [e _ (by omega)]; exact h.pl c hc
  · rw [e _ (by omega)]; exact h.ch c hc
  · rw [e _ (by omega)]; exact h.fz c hc
  · rw [e _ (by omega)]; exact h.ea c hc
  · rw [e _ (by omega)]; exact h.wr c hc
  · rw [e _ (by omega)] at hl ⊢
    exact h.li c hc hl
  · rw [e _ (by omega)]; exact h.wo c hc
  · rw [e _ (by omega)]; exact h.h
  · rw [e _ (by omega)]; exact h.d
  · rw [e _ (by omega)]; exact h.sp hg
theorem b_undo (h : INV N sc Ls M) (hN : N ≤ 550) : BTH sc Ls N j_O_undo j_M_undo [] M := by
  obtain ⟨b, v, dx, A, LA, s, F, I, L, R, H, P, Bn, Fn, Wn, K, rn, n, nx, tl, rl, Hs, Gs, rfl, hs, h⟩ := h
  have ob := h.ob hN (dx := dx) (LA := LA)
  have hi := ob.li
  have hru := h.ru
  have he := h.ev
  have hv : v 24 = 0 ∨ v 24 = 1 := Or.inl h.2.2.1.2.2.2.2.2.2.2.2
  have hpr := ob.pr
  have hpa := h.2.2.2.1.2.2.1
  have h20 : n ≤ 20 := hpa.2.2.2.1
  have h27 := h.2.2.2.1.1
  refine Cl.conseq (c_O_undo (by omega) ob hpa) ?_
  rintro o m ⟨rfl, hq⟩
  have hM := fun m0 => c_M_undo (m0 := m0) (v := v) (dx := dx) (A := A) (LA := LA) (s := s) (d := 59) h27 h20 h.2.2.2.1.2.1
  rcases hq with ⟨n0, F1, I1, L1, H1, rfl, qf, qi⟩ | ⟨n0, F1, I1, L1, H1, nx1, rfl, af, ai, wr, pa⟩
  · refine ⟨_, rfl, okM_of hs, ?_⟩
    rw [CC_MM]
    refine Cl.conseq (hM (CC b F1 I1 L1 R H1)) ?_
    rintro o2 m2 ⟨rfl, rfl⟩
    subst n0
    refine ⟨rfl, b, upd v 27 (nI (0 - 1)), dx, A, LA, s, F1, I1, L1, R, H1, P, Bn, Fn, Wn, K, rn, 0, nx, tl, rl, Hs, Gs, ?_, hs, h.q qf qi (fun i hi => ?_) (fun _ _ => rfl)⟩
    · rw [show uS 0 Hs s = s from if_pos rfl]
      exact (CC_MM _ _ _ _ _ _ _ _ _ _).symm
    · show upd v 27 (nI (0 - 1)) i = v i
      by_cases e : i = 27
      · subst e
        rw [upS, h27]
      · exact upN _ _ e
  · refine ⟨_, rfl, okM_of hs, ?_⟩
    rw [CC_MM]
    refine Cl.conseq (hM (CC b F1 I1 L1 R H1)) ?_
    rintro o2 m2 ⟨rfl, rfl⟩
    refine ⟨rfl, b, _, dx, A, LA, _, F1, I1, L1, R, H1, P, Bn, Fn, Wn, K, rn, n - 1, nx1, tl, rl, Hs, Gs, (CC_MM _ _ _ _ _ _ _ _ _ _).symm, hs, ?_⟩
    rw [show uS n Hs s = cpf (Hs (n - 1)) s 52 from if_neg n0]
    obtain ⟨⟨t1, t2, t3, t4, t5⟩, ⟨a1, a2, a3, a4, a5, a6⟩, ⟨c1, c2, c3, c4, c5, c6, c7, c8, c9⟩, ⟨p1, p2, p3, p4⟩, e, fi, g, r⟩ := h.onw
    obtain ⟨q1, q2, q3, q4⟩ := p4 (n - 1) (by omega)
    obtain ⟨wl, wd⟩ := a1.lane q1
    have hb6 := wl.b6
    have lo : ∀ i, i < 52 → cpf (Hs (n - 1)) s 52 i = Hs (n - 1) i := fun i hi => if_pos hi
    have hx : FX s (cpf (Hs (n - 1)) s 52) := fun i hi => by
      by_cases h5 : i < 52
      · rw [lo i h5]
        exact q3 i h5 hi
      · exact if_neg h5
    have t0 : cpf (Hs (n - 1)) s 52 0 = s 0 := hx 0 (by unfold fxc; omega)
    generalize cpf (Hs (n - 1)) s 52 = t at lo hx t0 ⊢
    have f0 := af 0 (by omega)
    have f1 := af 1 (by omega)
    have f12 := af 12 (by omega)
    have f17 := af 17 (by omega)
    have i2 := ai 2 (by omega)
    have i13 := ai 13 (by omega)
    refine ⟨⟨t1, by rw [f1]; exact t2, t3, by rw [i2]; exact t4, by rw [i2]; exact t5⟩, ⟨Or.inl ⟨by rw [t0]; exact q1, wl.fx hx, q2.ext hb6 (fun i hi => lo i (by unfold wdc at hi; omega))⟩, ?_, a3.fx hx, wr.low hb6 lo, by rw [f12, i13]; exact a5.fx hx, ?_⟩, ?_, ⟨rfl, fun i hi k hk => p2 i (by omega) k hk, pa, fun i hi => ?_⟩, e, fi, g, r⟩
    · have := a2.fx hb6 hx
      unfold LR at this ⊢
      rw [f17, ai 18 (by omega), ai 19 (by omega), ai 20 (by omega), ai 21 (by omega), ai 22 (by omega)]
      exact this
    · obtain ⟨D, d1, d2⟩ := q4
      exact ⟨D, d1, (lo 6 (by omega)).trans d2⟩
    · show v 2 = nI rn ∧ F1 0 12 = nI rn ∧ rn ≤ 6 ∧ v 21 = F1 0 13 ∧ vFo rn (F1 0 13) ∧ v 22 = F1 0 14 ∧ 0 ≤ F1 0 14 ∧ v 23 = -1 ∧ v 24 = 0
      rw [f0]
      exact ⟨c1, c2, c3, c4, c5, c6, c7, c8, c9⟩
    · obtain ⟨_, r2, r3, r4⟩ := p4 i (by omega)
      exact ⟨by rw [t0]; exact q1, r2, fun k hk1 hk2 => (r3 k hk1 hk2).trans (hx k hk2).symm, r4⟩
end NS2
