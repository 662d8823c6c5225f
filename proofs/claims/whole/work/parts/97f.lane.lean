/-! BOTH: print, lane. -/
section NT2
variable {b : xM} {v : Nat → Int32} {dx : Int64} {A : Nat → Nat → Int32} {LA : Nat → Nat → Int64} {s : Nat → Int32} {F I : Nat → Nat → Int32} {L : Nat → Nat → Int64} {R : Nat → Nat → Option Nat} {H : Value} {N P Bn Fn Wn K rn n nx tl : Nat} {rl : xRl} {Hs : Nat → Nat → Int32} {Gs : Nat → Nat → Nat → Int32} {M : xM} {sc : Nat → Int32} {Ls : Nat}
theorem LI.bds (h : LI P Bn Fn Wn s) : P ≤ 10 ∧ Bn ≤ 6 ∧ Fn ≤ 4 ∧ Wn ≤ 10 := by
  rcases h with ⟨_, wl, _⟩ | ⟨_, _, _, _, rfl, rfl, rfl, rfl⟩
  · exact ⟨wl.2.2.1, wl.2.2.2.2.1, wl.2.2.2.2.2.2.1, wl.2.2.2.2.2.2.2.2.1⟩
  · omega
theorem WL.low {t : Nat → Int32} (h : WL P Bn Fn Wn s) (e : ∀ i, i < 110 → t i = s i) : WL P Bn Fn Wn t := by
  obtain ⟨h1, h2, h3, h4, h5, h6, h7, h8, h9, h10, h11, h12, h13⟩ := h
  refine ⟨(e _ (by omega)).trans h1, h2, h3, (e _ (by omega)).trans h4, h5, (e _ (by omega)).trans h6, h7, (e _ (by omega)).trans h8, h9, fun c hc => ?_, fun k hk => ?_, fun k hk => ?_, fun q hq => ?_⟩
  · obtain ⟨x, a, y⟩ := h10 c hc
    exact ⟨x, a, (e _ (by omega)).trans y⟩
  · obtain ⟨x, a, y⟩ := h11 k hk
    exact ⟨x, a, (e _ (by omega)).trans y⟩
  · obtain ⟨x, a, y⟩ := h12 k hk
    exact ⟨x, a, (e _ (by omega)).trans y⟩
  · obtain ⟨x, a, y⟩ := h13 q hq
    exact ⟨x, a, (e _ (by omega)).trans y⟩
theorem LI.low {t : Nat → Int32} (h : LI P Bn Fn Wn s) (e : ∀ i, i < 110 → t i = s i) : LI P Bn Fn Wn t := by
  rcases h with ⟨h0, wl, wd⟩ | ⟨h0, h2, h3, h4, q⟩
  · exact Or.inl ⟨by rw [e 0 (by omega)]; exact h0, wl.low e, wd.ext wl.2.2.2.2.1 (fun i hi => e i (by unfold wdc at hi; omega))⟩
  · exact Or.inr ⟨(e 0 (by omega)).trans h0, (e 2 (by omega)).trans h2, (e 3 (by omega)).trans h3, (e 4 (by omega)).trans h4, q⟩
/-- what is said below 110 stays: with other prints -/
theorem vSa.low {t : Nat → Int32} {F1 I1 : Nat → Nat → Int32} {K1 N2 : Nat} (h : vSa N P Bn Fn Wn K s F I) (hN : N ≤ N2) (e : ∀ i, i < 110 → t i = s i) (hp : PR K1 t (F1 12) (I1 13)) (f17 : F1 17 = F 17) (i9 : I1 9 = I 9) (hi : ∀ k, 18 ≤ k → k ≤ 22 → I1 k = I k) : vSa N2 P Bn Fn Wn K1 t F1 I1 := by
  obtain ⟨a1, a2, a3, a4, a5, D, d1, d2⟩ := h
  obtain ⟨b1, b2, b3, b4⟩ := a1.bds
  refine ⟨a1.low e, ?_, fun k hk => ?_, by rw [i9]; exact a4.low b2 (fun i hi => e i (by omega)), hp, D, by omega, (e 6 (by omega)).trans d2⟩
  · unfold LR at a2 ⊢
    rw [f17, hi 18 (by omega) (by omega), hi 19 (by omega) (by omega), hi 20 (by omega) (by omega), hi 21 (by omega) (by omega), hi 22 (by omega) (by omega)]
    obtain ⟨l1, l2, l3, l4, l5, l6, l7, l8, l9, l10, l11, l12⟩ := a2
    exact ⟨l1.trans (e _ (by omega)).symm, l2.trans (e _ (by omega)).symm, l3.trans (e _ (by omega)).symm, l4.trans (e _ (by omega)).symm, l5.trans (e _ (by omega)).symm, l6.trans (e _ (by omega)).symm, l7.trans (e _ (by omega)).symm, fun x hx => (l8 x hx).trans (e _ (by omega)).symm, fun x hx => (l9 x hx).trans (e _ (by omega)).symm, fun x hx => (l10 x hx).trans (e _ (by omega)).symm, fun x hx => (l11 x hx).trans (e _ (by omega)).symm, fun x hx => (l12 x hx).trans (e _ (by omega)).symm⟩
  · obtain ⟨x, a, y⟩ := a3 k hk
    exact ⟨x, a, (e _ (by omega)).trans y⟩
theorem b_print (h : INV N sc Ls M) (hN : N ≤ 550) (n_ p_ b_ z_ : Int32) : BTH sc Ls N j_O_print j_M_print [.int n_, .int p_, .int b_, .int z_] M := by
  obtain ⟨b, v, dx, A, LA, s, F, I, L, R, H, P, Bn, Fn, Wn, K, rn, n, nx, tl, rl, Hs, Gs, rfl, hs, h⟩ := h
  have ob := h.ob hN (dx := dx) (LA := LA)
  have hpr := ob.pr
  refine Cl.conseq (c_O_print (by omega) ob n_ p_ b_ z_) ?_
  rintro o m ⟨h1, h2⟩
  have hM := fun m0 => c_M_print (m0 := m0) (v := v) (dx := dx) (A := A) (LA := LA) (s := s) (d := 59) (by omega) hpr.k hpr.n n_ p_ b_ z_
  have hh := h.onw
  by_cases g : n_ = -1
  · refine bth_s (P := P) (Bn := Bn) (Fn := Fn) (Wn := Wn) (rn := rn) (n := n) (nx := nx) (rl := rl) (Hs := Hs) (Gs := Gs) (K1 := 0) (tl1 := tl) hs (h1 g).1 (h1 g).2 hM (fun m0 o2 m2 z => z.1 g) ?_
    obtain ⟨t, a, c, ⟨p1, p2, p3, p4⟩, e, f, g2, r⟩ := hh
    have lo : ∀ i, i < 110 → upd s 150 0 i = s i := fun i hi => upN _ _ (by omega)
    refine ⟨t, a.low (Nat.le_refl _) lo ⟨upS _ _ _, by omega, rfl, fun i hi => absurd hi (Nat.not_lt_zero _), fun i hi => absurd hi (Nat.not_lt_zero _), fun i hi => absurd hi (Nat.not_lt_zero _)⟩ rfl rfl (fun _ _ _ => rfl), c, ⟨p1, p2, p3, fun i hi => ?_⟩, e, f, g2, r⟩
    obtain ⟨q1, q2, q3, q4⟩ := p4 i hi
    exact ⟨by rw [lo 0 (by omega)]; exact q1, q2, fun k hk hk2 => (q3 k hk hk2).trans (lo k (by omega)).symm, q4⟩
  · by_cases g1 : gPr s n_ p_ b_
    · exact bth_s hs ((h2 g).1 g1).1 ((h2 g).1 g1).2 hM (fun m0 o2 m2 z => (z.2 g).1 g1) hh
    · obtain ⟨e1, e2, e3⟩ := (h2 g).2 g1
      refine bth_s (P := P) (Bn := Bn) (Fn := Fn) (Wn := Wn) (rn := rn) (n := n) (nx := nx) (rl := rl) (Hs := Hs) (Gs := Gs) (K1 := K + 1) (tl1 := tl) hs e1 e2 hM (fun m0 o2 m2 z => (z.2 g).2 g1) ?_
      obtain ⟨t, a, c, ⟨p1, p2, p3, p4⟩, e, f, g2, r⟩ := hh
      have hn : 0 ≤ n_ ∧ n_ ≤ 47 := Classical.byContradiction fun z => g1 (Or.inl z)
      have lo : ∀ i, i < 110 → prS s K n_ p_ b_ z_ i = s i := fun i hi => by
        unfold prS
        rw [upN _ _ (by omega), upN _ _ (by omega), upN _ _ (by omega), upN _ _ (by omega), upN _ _ (by omega)]
      refine ⟨t, a.low (Nat.le_refl _) lo (hpr.add e3 hn) rfl rfl (fun k h1 h2 => up_ne _ _ (by omega)), c, ⟨p1, p2, p3, fun i hi => ?_⟩, e, f, g2, r⟩
      obtain ⟨q1, q2, q3, q4⟩ := p4 i hi
      exact ⟨by rw [lo 0 (by omega)]; exact q1, q2, fun k hk hk2 => (q3 k hk hk2).trans (lo k (by omega)).symm, q4⟩
/-- all but the tape stays -/
theorem IV0.kp {F1 I1 A1 : Nat → Nat → Int32} {v1 : Nat → Int32} {tl1 : Nat} (h : IV0 N b v A s F I R P Bn Fn Wn K rn n nx tl rl Hs Gs) (ht : vTp tl1 v1 A1 F1 I1) (hF : ∀ k, k = 0 ∨ k = 10 ∨ k = 12 ∨ k = 17 → F1 k = F k) (hI : ∀ k, k = 9 ∨ k = 11 ∨ k = 13 ∨ k = 18 ∨ k = 19 ∨ k = 20 ∨ k = 21 ∨ k = 22 → I1 k = I k) (sv : ∀ i, i = 2 ∨ i = 21 ∨ i = 22 ∨ i = 23 ∨ i = 24 ∨ i = 27 → v1 i = v i) (sA : ∀ k, k = 61 ∨ k = 65 ∨ k = 66 ∨ k = 67 ∨ k = 68 → A1 k = A k) (hR : ∀ r, r < rn → RuW A1 r (rl r).1 (rl r).2.1 (rl r).2.2) : IV0 (N + 1) b v1 A1 s F1 I1 R P Bn Fn Wn K rn n nx tl1 rl Hs Gs := by
  obtain ⟨_, a, ⟨c1, c2, c3, c4, c5, c6, c7, c8, c9⟩, p, e, f, g, r⟩ := h
  have f0 := hF 0 (by omega)
  refine ⟨ht, ?_, ?_, ?_, fun x hx => ⟨hR x hx, (e x hx).2⟩, ?_, g, r⟩
  · exact a.low (Nat.le_succ N) (fun _ _ => rfl) (by rw [hF 12 (by omega), hI 13 (by omega)]; exact a.2.2.2.2.1) (hF 17 (by omega)) (hI 9 (by omega)) (fun k h1 h2 => hI k (by omega))
  · show v1 2 = nI rn ∧ F1 0 12 = nI rn ∧ rn ≤ 6 ∧ v1 21 = F1 0 13 ∧ vFo rn (F1 0 13) ∧ v1 22 = F1 0 14 ∧ 0 ≤ F1 0 14 ∧ v1 23 = -1 ∧ v1 24 = 0
    rw [f0]
    exact ⟨(sv 2 (by omega)).trans c1, c2, c3, (sv 21 (by omega)).trans c4, c5, (sv 22 (by omega)).trans c6, c7, (sv 23 (by omega)).trans c8, (sv 24 (by omega)).trans c9⟩
  · obtain ⟨p1, p2, p3, p4⟩ := p.up (Nat.le_succ N)
    exact ⟨(sv 27 (by omega)).trans p1, by rw [sA 61 (by omega)]; exact p2, by rw [hF 10 (by omega), hI 11 (by omega)]; exact p3, p4⟩
  · intro k hk
    rw [sA 65 (by omega), sA 66 (by omega), sA 67 (by omega), sA 68 (by omega)]
    exact (vIm.up f (Nat.le_succ N)) k hk
/-- what is said of a lane, cell by cell -/
theorem laS_v (q g : Nat → Int32) : (∀ i, i < 110 → i ≠ 8 → i ≠ 9 → (i < 46 ∨ 51 < i) → laS q g i = q i) ∧ laS q g 8 = (if q 8 < 0 then 30 else q 8) ∧ laS q g 9 = (if q 9 < 0 then 0 else q 9) ∧ (∀ k, k < 2 → laS q g (46 + 3 * k) = -1 ∧ laS q g (46 + 3 * k + 1) = laS q g 9 ∧ laS q g (46 + 3 * k + 2) = 0) ∧ laS q g 150 = 0 := by
  have h8 : lyS q g 151 8 = q 8 := rfl
  have h9 : lyS q g 151 9 = q 9 := rfl
  unfold laS

  rw [h8]
  have hf : ∀ i, (if q 8 < 0 then upd (lyS q g 151) 8 30 else lyS q g 151) i = if i = 8 then (if q 8 < 0 then 30 else q 8) else lyS q g 151 i := fun i => by
    by_cases c : q 8 < 0
    · rw [if_pos c, if_pos c]
      by_cases e : i = 8
      · subst e
        rw [upS, if_pos rfl]
      · rw [upN _ _ e, if_neg e]
    · rw [if_neg c, if_neg c]
      by_cases e : i = 8
      · subst e
        rw [if_pos rfl]
        exact h8
      · rw [if_neg e]
  generalize (if q 8 < 0 then upd (lyS q g 151) 8 30 else lyS q g 151) = f1 at hf ⊢
  have e9 : f1 9 = q 9 := (hf 9).trans h9
  rw [e9]
  have hf2 : ∀ i, (if q 9 < 0 then upd f1 9 0 else f1) i = if i = 9 then (if q 9 < 0 then 0 else q 9) else f1 i := fun i => by
    by_cases c : q 9 < 0
    · rw [if_pos c, if_pos c]
      by_cases e : i = 9
      · subst e
        rw [upS, if_pos rfl]
      · rw [upN _ _ e, if_neg e]
    · rw [if_neg c, if_neg c]
      by_cases e : i = 9
      · subst e
        rw [if_pos rfl]
        exact e9
      · rw [if_neg e]
  generalize (if q 9 < 0 then upd f1 9 0 else f1) = f2 at hf2 ⊢
  refine ⟨fun i h1 h2 h3 h4 => ?_, ?_, ?_, fun k hk => ?_, ?_⟩
  · rw [upN _ _ (by omega), upN _ _ (by omega), upN _ _ (by omega), upN _ _ (by omega), upN _ _ (by omega), upN _ _ (by omega), hf2 i, if_neg h3, hf i, if_neg h2]
    show (if i < 151 then (if i < 110 then q i else 0) else g i) = q i
    rw [if_pos (show i < 151 by omega), if_pos h1]
  · rw [upN _ _ (by omega), upN _ _ (by omega), upN _ _ (by omega), upN _ _ (by omega), upN _ _ (by omega), upN _ _ (by omega), hf2 8, if_neg (by omega), hf 8, if_pos rfl]
  · rw [upN _ _ (by omega), upN _ _ (by omega), upN _ _ (by omega), upN _ _ (by omega), upN _ _ (by omega), upN _ _ (by omega), hf2 9, if_pos rfl]
  · obtain rfl | rfl : k = 0 ∨ k = 1 := by omega
    · exact ⟨rfl, rfl, rfl⟩
    · exact ⟨rfl, rfl, rfl⟩
  · rw [upN _ _ (by omega), upN _ _ (by omega), upN _ _ (by omega), upN _ _ (by omega), upN _ _ (by omega), upN _ _ (by omega), hf2 150, if_neg (by omega), hf 150, if_neg (by omega)]
    rfl
theorem m1_lt {x : Int32} (h : x = -1 ∨ 0 ≤ x) : x = -1 ↔ x < 0 := by
  rw [m1_ne h]
  exact Int32.not_le
/-- the new lane: what is said, and the class's rows of it -/
theorem vSa_la {q g : Nat → Int32} {F1 I1 : Nat → Nat → Int32} {w9 : Nat → Int32} (hv : LV P Bn Fn Wn q) (hp : 2 ≤ P) (hl : LG 10 Bn Fn Wn (flQ q) (F1 17) (I1 18) (I1 19) (I1 20) (I1 21) (I1 22)) (h9 : I1 9 = bgW (I1 19) Bn (F1 17 9) w9) (h12 : F1 12 1 = 0) : vSa 0 P Bn Fn Wn 0 (laS q g) F1 I1 := by
  obtain ⟨s1, s8, s9, sb, s150⟩ := laS_v q g
  obtain ⟨⟨c0, _, c0b⟩, ⟨c1, c1a⟩, ⟨c2, c2a⟩, ⟨c3, c3a⟩, c4, c5, c6, ⟨c7, c7a, c7b⟩, c8, c9⟩ := hv
  have e8 : flQ q 8 = laS q g 8 := by
    rw [s8]
    unfold flQ
    rw [upN _ _ (by decide), upS]
    by_cases c : q 8 = -1
    · rw [if_pos c, if_pos ((m1_lt c8).mp c)]
    · rw [if_neg c, if_neg (fun z => c ((m1_lt c8).mpr z))]
  have e9 : flQ q 9 = laS q g 9 := by
    rw [s9]
    unfold flQ
    rw [upS]
    by_cases c : q 9 = -1
    · rw [if_pos c, if_pos ((m1_lt c9).mp c)]
    · rw [if_neg c, if_neg (fun z => c ((m1_lt c9).mpr z))]
  have ef : ∀ i, i < 110 → (i < 46 ∨ 51 < i) → flQ q i = laS q g i := fun i hi hj => by
    by_cases h8 : i = 8
    · subst h8
      exact e8
    · by_cases h9 : i = 9
      · subst h9
        exact e9
      · rw [flQ_n h8 h9, s1 i hi h8 h9 hj]
  have sq : ∀ i, i < 110 → i ≠ 8 → i ≠ 9 → (i < 46 ∨ 51 < i) → laS q g i = q i := s1
  obtain ⟨l1, l2, l3, l4, l5, l6, l7, l8, l9, l10, l11, l12⟩ := hl
  have lr : LR P Bn Fn Wn (laS q g) F1 I1 := ⟨l1.trans (ef _ (by omega) (by omega)), l2.trans (ef _ (by omega) (by omega)), l3.trans (ef _ (by omega) (by omega)), l4.trans (ef _ (by omega) (by omega)), l5.trans (ef _ (by omega) (by omega)), l6.trans (ef _ (by omega) (by omega)), l7.trans (ef _ (by omega) (by omega)), fun x hx => (l8 x (by omega)).trans (ef _ (by omega) (by omega)), fun x hx => (l9 x hx).trans (ef _ (by omega) (by omega)), fun x hx => (l10 x hx).trans (ef _ (by omega) (by omega)), fun x hx => (l11 x hx).trans (ef _ (by omega) (by omega)), fun x hx => (l12 x hx).trans (ef _ (by omega) (by omega))⟩
  have wl : WL P Bn Fn Wn (laS q g) := by
    refine ⟨(sq 0 (by omega) (by omega) (by omega) (by omega)).trans c0, hp, c0b, (sq 2 (by omega) (by omega) (by omega) (by omega)).trans c1, c1a, (sq 3 (by omega) (by omega) (by omega) (by omega)).trans c2, c2a, (sq 4 (by omega) (by omega) (by omega) (by omega)).trans c3, c3a, fun c hc => ?_, fun k hk => ?_, fun k hk => ?_, fun x hx => ?_⟩
    · obtain ⟨x, a, _, y, _⟩ := c4 c hc
      exact ⟨x, a, (sq _ (by omega) (by omega) (by omega) (by omega)).trans y⟩
    · obtain ⟨⟨c, a, y⟩, _⟩ := c5 k hk
      exact ⟨c, a, (sq _ (by omega) (by omega) (by omega) (by omega)).trans y⟩
    · obtain ⟨_, _, c, a, y⟩ := c5 k hk
      exact ⟨c, a, (sq _ (by omega) (by omega) (by omega) (by omega)).trans y⟩
    · obtain ⟨z, a, y⟩ := c6 x (by omega)
      exact ⟨z, a, (sq _ (by omega) (by omega) (by omega) (by omega)).trans y⟩
  have wd : WD P Bn (laS q g) := by
    refine ⟨⟨0, by omega, (sq 5 (by omega) (by omega) (by omega) (by omega)).trans c7⟩, fun c hc => ?_, fun c hc => ?_, fun c hc => ?_, fun k hk => Or.inl (sb k hk).1⟩
    · obtain ⟨x, a, y, _⟩ := c4 c hc
      exact ⟨x, a, (sq _ (by omega) (by omega) (by omega) (by omega)).trans y⟩
    · obtain ⟨x, a, _, _, y, _⟩ := c4 c hc
      exact ⟨0, by omega, (sq _ (by omega) (by omega) (by omega) (by omega)).trans y, Or.inl (by omega)⟩
    · obtain ⟨x, a, _, _, _, y, _⟩ := c4 c hc
      exact Or.inl ((sq _ (by omega) (by omega) (by omega) (by omega)).trans y)
  have h0 : 0 < laS q g 0 := by
    rw [wl.1]
    exact (nI_ltI (a := 0) (b := P) (by omega) (by omega)).mpr (by omega)
  have bz : ∀ j, Bn ≤ j → j < 33 → (j < 24 ∨ 27 < j) → bgW (I1 19) Bn (F1 17 9) w9 j = 0 := fun j h1 h2 h3 => by
    unfold bgW
    rw [upN _ _ (by omega), upN _ _ (by omega), upN _ _ (by omega), upN _ _ (by omega), pk_cpy_out (by omega)]
    exact filN_i h2
  have wr : WR True Bn (laS q g) (I1 9) := by
    rw [h9]
    refine ⟨fun c hc => ?_, fun c hc => ?_, fun c hc => ?_, fun c hc => ?_, fun k hk => ?_, fun k hk _ => ?_, fun k hk => ?_, ?_, ?_, fun _ => ?_, fun c h1 h2 => ⟨bz _ (by omega) (by omega) (by omega), bz _ (by omega) (by omega) (by omega)⟩⟩
    · rw [bgW_p _ _ _ hc c1a, lr.2.2.2.2.2.2.2.2.1 c hc]
      obtain ⟨x, _, y, z, _⟩ := c4 c hc
      rw [sq _ (by omega) (by omega) (by omega) (by omega), sq _ (by omega) (by omega) (by omega) (by omega), y, z]
    · rw [bz _ (by omega) (by omega) (by omega)]
      obtain ⟨x, _, _, _, y, _⟩ := c4 c hc
      exact ((sq _ (by omega) (by omega) (by omega) (by omega)).trans y).symm
    · rw [bz _ (by omega) (by omega) (by omega)]
      obtain ⟨x, _, _, _, _, y, _⟩ := c4 c hc
      exact ((sq _ (by omega) (by omega) (by omega) (by omega)).trans y).symm
    · rw [bz _ (by omega) (by omega) (by omega)]
      obtain ⟨x, _, _, _, _, _, y⟩ := c4 c hc
      exact ((sq _ (by omega) (by omega) (by omega) (by omega)).trans y).symm
    · rw [(sb k hk).1]
      obtain rfl | rfl : k = 0 ∨ k = 1 := by omega
      · rfl
      · rfl
    · rw [(sb k hk).2.1, ← lr.2.2.2.1]
      obtain rfl | rfl : k = 0 ∨ k = 1 := by omega
      · rfl
      · rfl
    · rw [(sb k hk).2.2, bz _ (by omega) (by omega) (by omega)]
    · rw [bz _ (by omega) (by omega) (by omega)]
      exact ((sq 5 (by omega) (by omega) (by omega) (by omega)).trans c7).symm
    · rw [bz _ (by omega) (by omega) (by omega)]
      exact ((sq 6 (by omega) (by omega) (by omega) (by omega)).trans c7a).symm
    · rw [bz _ (by omega) (by omega) (by omega)]
      exact ((sq 7 (by omega) (by omega) (by omega) (by omega)).trans c7b).symm
  refine ⟨Or.inl ⟨h0, wl, wd⟩, lr, fun k hk => ?_, wr, ⟨s150, by omega, h12.trans s150.symm, fun i hi => absurd hi (Nat.not_lt_zero _), fun i hi => absurd hi (Nat.not_lt_zero _), fun i hi => absurd hi (Nat.not_lt_zero _)⟩, 0, by omega, (sq 6 (by omega) (by omega) (by omega) (by omega)).trans c7a⟩
  obtain ⟨_, ⟨x, a, y⟩, _⟩ := c5 k hk
  exact ⟨x, a, (sq _ (by omega) (by omega) (by omega) (by omega)).trans y⟩
theorem b_lane (h : INV N sc Ls M) (hN : N ≤ 550) : BTH sc Ls N j_O_lane j_M_lane [] M := by
  obtain ⟨b, v, dx, A, LA, s, F, I, L, R, H, P, Bn, Fn, Wn, K, rn, n, nx, tl, rl, Hs, Gs, rfl, hs, h⟩ := h
  obtain ⟨t1, t2, t3, t4, t5⟩ := h.1
  have hro := h.2.2.2.2.2.2.2
  have hS : STR0 (MS b v dx A LA s) := fun k hk => by
    have := hro.1 k hk
    exact ⟨(if_neg (by unfold xS; omega)).trans this.1, (if_neg (by unfold xS; omega)).trans this.2⟩
  refine Cl.conseq (c_O_lane (n := tl) (q := lyB (lyA (A 56) 10) 10) (by omega) hS t2 t3 t5 (ly_ini _)) ?_
  intro o m hg
  have hM := fun m0 => x_lane (m0 := m0) (v := v) (dx := dx) (A := A) (LA := LA) (s := s) (d := 59) (T := I 2) (n := tl) (by omega) t4 t1 t3 t5
  have hRu : ∀ r, r < rn → RuW A r (rl r).1 (rl r).2.1 (rl r).2.2 := fun r hr => (h.2.2.2.2.1 r hr).1
  cases hX : gLd (I 2) tl 41 0 (skE (I 2) tl 0, lyB (lyA (A 56) 10) 10) with
  | inl e =>
    rw [hX] at hg hM
    obtain ⟨rfl, F1, I1, rfl, ⟨u1, u2⟩, u3⟩ := hg
    refine ⟨_, rfl, okM_of hs, ?_⟩
    rw [CC_MM]
    refine Cl.conseq (hM (CC b F1 I1 L R H)) ?_
    rintro o2 m2 ⟨rfl, v1, A1, rfl, ⟨w1, w2, w3⟩, w4⟩
    refine ⟨rfl, b, v1, dx, A1, LA, s, F1, I1, L, R, H, P, Bn, Fn, Wn, K, rn, n, nx, 0, rl, Hs, Gs, (CC_MM _ _ _ _ _ _ _ _ _ _).symm, hs, h.kp ⟨w4, u3, by omega, ?_, ?_⟩ (fun k hk => u1 k (by omega) (by omega)) (fun k hk => u2 k (by omega)) (fun i hi => ?_) (fun k hk => w2 k (by omega) (by omega)) (fun r hr => (hRu r hr).eq (w2 52 (by omega) (by omega)) (w2 54 (by omega) (by omega)) (w2 55 (by omega) (by omega)))⟩
    · rw [w2 51 (by omega) (by omega), u2 2 (by omega)]
      exact t4
    · rw [u2 2 (by omega)]
      exact t5
    · rw [w1 i (by omega) (by omega) (by omega) (by omega) (by omega) (by omega), upN _ _ (by omega)]
  | inr z =>
    rw [hX] at hg hM
    obtain ⟨P', B', E', W', hv, hp2⟩ := gLd_v 41 0 _ z _ _ _ _ (ly_ini _).lv hX
    obtain ⟨rfl, F1, I1, rfl, u1, u2, u3, u4, u5, u6, u7⟩ := hg
    rw [hv.c2, hv.c3, hv.c4] at u6
    rw [hv.c2] at u7
    refine ⟨_, rfl, okM_of hs, ?_⟩
    rw [CC_MM]
    refine Cl.conseq (hM (CC b F1 I1 L R H)) ?_
    rintro o2 m2 ⟨rfl, v1, A1, rfl, ⟨w1, w2, w3⟩, w4⟩
    obtain ⟨_, a, ⟨c1, c2, c3, c4, c5, c6, c7, c8, c9⟩, p, e, f, g, r⟩ := h.onw
    have sv : ∀ i, i = 2 ∨ i = 21 ∨ i = 22 ∨ i = 23 ∨ i = 24 → upd v1 27 0 i = v i := fun i hi => by
      rw [upN _ _ (by omega), w1 i (by omega) (by omega) (by omega) (by omega) (by omega) (by omega), upN _ _ (by omega)]
    have f0 := u1 0 (by omega) (by omega) (by omega) (by omega) (by omega)
    have sA : ∀ k, k ≠ 53 → k ≠ 56 → A1 k = A k := w2
    have sa := vSa_la (g := s) hv hp2 u6 u7 (by rw [u4]; exact upS _ _ _)
    refine ⟨rfl, b, upd v1 27 0, dx, A1, LA, laS z.2 s, F1, I1, L, R, H, P', B', E', W', 0, rn, 0, nx, 0, rl, Hs, Gs, (CC_MM _ _ _ _ _ _ _ _ _ _).symm, hs, ⟨w4, u3, by omega, ?_, ?_⟩, sa.up (Nat.zero_le _), ?_, ⟨rfl, fun i hi => absurd hi (Nat.not_lt_zero _), ?_, fun i hi => absurd hi (Nat.not_lt_zero _)⟩, ?_, ?_, g, r⟩
    · rw [sA 51 (by omega) (by omega), u2 2 (by omega) (by omega) (by omega)]
      exact t4
    · rw [u2 2 (by omega) (by omega) (by omega)]
      exact t5
    · show upd v1 27 0 2 = nI rn ∧ F1 0 12 = nI rn ∧ rn ≤ 6 ∧ upd v1 27 0 21 = F1 0 13 ∧ vFo rn (F1 0 13) ∧ upd v1 27 0 22 = F1 0 14 ∧ 0 ≤ F1 0 14 ∧ upd v1 27 0 23 = -1 ∧ upd v1 27 0 24 = 0
      rw [f0]
      exact ⟨(sv 2 (by omega)).trans c1, c2, c3, (sv 21 (by omega)).trans c4, c5, (sv 22 (by omega)).trans c6, c7, (sv 23 (by omega)).trans c8, (sv 24 (by omega)).trans c9⟩
    · obtain ⟨q1, q2, q3, q4, _⟩ := p.2.2.1
      rw [u5]
      exact ⟨q1, q2, rfl, by omega, fun i hi => absurd hi (Nat.not_lt_zero _)⟩
    · intro x hx
      exact ⟨RuW.eq (e x hx).1 (sA 52 (by omega) (by omega)) (sA 54 (by omega) (by omega)) (sA 55 (by omega) (by omega)), (e x hx).2⟩
    · intro k hk
      rw [sA 65 (by omega) (by omega), sA 66 (by omega) (by omega), sA 67 (by omega) (by omega), sA 68 (by omega) (by omega)]
      exact f k hk
end NT2
