/-! BOTH: the other questions, and small calls. -/
section NR2
variable {b : xM} {v : Nat → Int32} {dx : Int64} {A : Nat → Nat → Int32} {LA : Nat → Nat → Int64} {s : Nat → Int32} {F I : Nat → Nat → Int32} {L : Nat → Nat → Int64} {R : Nat → Nat → Option Nat} {H : Value} {N P Bn Fn Wn K rn n nx tl : Nat} {rl : xRl} {Hs : Nat → Nat → Int32} {Gs : Nat → Nat → Nat → Int32} {M : xM} {sc : Nat → Int32} {Ls : Nat}
theorem Cl.all {γ : Type} (c0 : γ) {d j : Nat} {as : List Value} {m : xM} {Q : γ → Option Value → xM → Prop} (h : ∀ c, Cl d j as m (Q c)) : Cl d j as m (fun r m2 => ∀ c, Q c r m2) := by
  obtain ⟨n0, r0, m0, e0, _⟩ := h c0
  refine ⟨n0, r0, m0, e0, fun c => ?_⟩
  obtain ⟨n1, r1, m1, e1, p⟩ := h c
  have a1 := Ix_mono (Nat.le_max_left n0 n1) e0
  have a2 := Ix_mono (Nat.le_max_right n0 n1) e1
  rw [a1] at a2
  obtain ⟨rfl, rfl⟩ : r0 = r1 ∧ m0 = m1 := by
    have := Option.some.inj a2
    exact ⟨congrArg Prod.fst this, congrArg Prod.snd this⟩
  exact p
/-- behind the class's question the model's is asked -/
theorem bth_2 {jM : Nat} {as : List Value} {Q2 : xM → Option Value → xM → Prop} {o : Option Value} {m : xM} {Z : Int32} (h : IV0 N b v A s F I R P Bn Fn Wn K rn n nx tl rl Hs Gs) (hs : b.2.2 (xS + 60) = some (.inl (0, Ls, xints sc))) (ho : o = some (.int Z)) (hq : QG (MS b v dx A LA s) F I R m) (hM : ∀ m0, Cl 59 jM (.ref 50 :: as) (MS m0 v dx A LA s) (Q2 m0)) (hZ : ∀ m0 o2 m2, Q2 m0 o2 m2 → o2 = some (.int Z) ∧ MG m0 v A s m2) : ∃ y : Int32, o = some (.int y) ∧ okM sc Ls m ∧ Cl 59 jM (.ref 50 :: as) m (fun o2 m2 => o2 = some (.int y) ∧ INV (N + 1) sc Ls m2) := by
  obtain ⟨F1, I1, L1, H1, rfl, qf, qi⟩ := hq
  refine ⟨Z, ho, okM_of hs, ?_⟩
  rw [CC_MM]
  refine Cl.conseq (hM (CC b F1 I1 L1 R H1)) ?_
  rintro o2 m2 hh
  obtain ⟨rfl, v', dx', A', LA', rfl, e1, e2⟩ := hZ _ o2 m2 hh
  refine ⟨rfl, b, v', dx', A', LA', s, F1, I1, L1, R, H1, P, Bn, Fn, Wn, K, rn, n, nx, tl, rl, Hs, Gs, ?_, hs, h.q qf qi e1 e2⟩
  exact (CC_MM _ _ _ _ _ _ _ _ _ _).symm
theorem b_look (h : INV N sc Ls M) (hN : N ≤ 550) (x y : Int32) : BTH sc Ls N j_O_look j_M_look [.int x, .int y] M := by
  obtain ⟨b, v, dx, A, LA, s, F, I, L, R, H, P, Bn, Fn, Wn, K, rn, n, nx, tl, rl, Hs, Gs, rfl, hs, h⟩ := h
  have ob := h.ob hN (dx := dx) (LA := LA)
  have hi := ob.li
  have hru := h.ru
  have he := h.ev
  have hv : v 24 = 0 ∨ v 24 = 1 := Or.inl h.2.2.1.2.2.2.2.2.2.2.2
  have hpr := ob.pr
  refine Cl.conseq (c_O_look (by omega) ob x y) ?_
  rintro o m ⟨h1, h2⟩
  have hM := fun m0 => c_M_look (m0 := m0) (dx := dx) (LA := LA) (d := 59) hi hv hru hpr.k hpr.n (by omega) x y
  rw [he] at hM
  by_cases g : gLo s x y
  · exact bth_2 h hs (h1 g).1 (h1 g).2 hM (fun m0 o2 m2 z => z.1 g)
  · by_cases g2 : fbN (F 0 13, rl, -1, 0, Bn, Fn, Wn) s K (Bn + 1) = 0
    · exact bth_2 h hs ((h2 g).1 g2).1 ((h2 g).1 g2).2 hM (fun m0 o2 m2 z => (z.2 g).1 g2)
    · have h3 := (h2 g).2 g2
      refine bth_2 h hs (h3 (fun _ => 0)).1 (h3 (fun _ => 0)).2 hM (fun m0 o2 m2 z => ?_)
      obtain ⟨f, e, mg⟩ := (z.2 g).2 g2
      exact ⟨e.trans ((h3 f).1.symm.trans (h3 (fun _ => 0)).1), mg⟩
theorem b_cobbler (h : INV N sc Ls M) (hN : N ≤ 550) (x n_ ww c f y : Int32) : BTH sc Ls N j_O_cobbler j_M_cobbler [.int x, .int n_, .int ww, .int c, .int f, .int y] M := by
  obtain ⟨b, v, dx, A, LA, s, F, I, L, R, H, P, Bn, Fn, Wn, K, rn, n, nx, tl, rl, Hs, Gs, rfl, hs, h⟩ := h
  have ob := h.ob hN (dx := dx) (LA := LA)
  have hi := ob.li
  have hru := h.ru
  have he := h.ev
  have hv : v 24 = 0 ∨ v 24 = 1 := Or.inl h.2.2.1.2.2.2.2.2.2.2.2
  have hpr := ob.pr
  refine Cl.conseq (Cl.all (fun _ => (0 : Int32)) (fun C0 => c_O_cobbler (by omega) ob x n_ ww c f y C0)) ?_
  intro o m hh
  have hM := fun m0 => c_M_cobbler (m0 := m0) (v := v) (dx := dx) (A := A) (LA := LA) (s := s) (d := 59) (by omega) x n_ ww c f y
  by_cases g : gCb s x n_ ww c f y
  · have h1 := (hh (fun _ => 0)).1 g
    exact bth_2 h hs h1.1 h1.2 hM (fun m0 o2 m2 z => z.1 g)
  · have h1 := (hh (fun _ => 0)).2 g
    refine bth_2 h hs h1.1 h1.2 hM (fun m0 o2 m2 z => ?_)
    obtain ⟨C, e, mg⟩ := z.2 g
    exact ⟨e.trans (((hh C).2 g).1.symm.trans h1.1), mg⟩
theorem b_winters (h : INV N sc Ls M) (hN : N ≤ 550) (q_ n_ p_ y : Int32) : BTH sc Ls N j_O_winters j_M_winters [.int q_, .int n_, .int p_, .int y] M := by
  obtain ⟨b, v, dx, A, LA, s, F, I, L, R, H, P, Bn, Fn, Wn, K, rn, n, nx, tl, rl, Hs, Gs, rfl, hs, h⟩ := h
  have ob := h.ob hN (dx := dx) (LA := LA)
  have hi := ob.li
  have hru := h.ru
  have he := h.ev
  have hv : v 24 = 0 ∨ v 24 = 1 := Or.inl h.2.2.1.2.2.2.2.2.2.2.2
  have hpr := ob.pr
  obtain ⟨_, _, _, _, _, r6, r7, _, r9⟩ := h.2.2.1
  obtain ⟨Dx, hD, eD⟩ := nI_of (x := F 0 14) (Int32.not_lt.mpr r7)
  refine bth_q h hs (c_O_winters (by omega) ob eD hD q_ n_ p_ y) (fun m0 => c_M_winters hi r9 hru (by omega) q_ n_ p_ y) rfl ?_
  rw [he, r6, eD]
/-- a call that changes little -/
theorem bth_s {jM : Nat} {as : List Value} {v1 : Nat → Int32} {F1 I1 A1 : Nat → Nat → Int32} {s1 : Nat → Int32} {Z : Int32} {K1 tl1 : Nat} {o : Option Value} {m : xM} {Q2 : xM → Option Value → xM → Prop} (hs : b.2.2 (xS + 60) = some (.inl (0, Ls, xints sc))) (ho : o = some (.int Z)) (hm : m = CC (MS b v dx A LA s) F1 I1 L R H) (hM : ∀ m0, Cl 59 jM (.ref 50 :: as) (MS m0 v dx A LA s) (Q2 m0)) (hZ : ∀ m0 o2 m2, Q2 m0 o2 m2 → o2 = some (.int Z) ∧ m2 = MS m0 v1 dx A1 LA s1) (hi : IV0 (N + 1) b v1 A1 s1 F1 I1 R P Bn Fn Wn K1 rn n nx tl1 rl Hs Gs) : ∃ y : Int32, o = some (.int y) ∧ okM sc Ls m ∧ Cl 59 jM (.ref 50 :: as) m (fun o2 m2 => o2 = some (.int y) ∧ INV (N + 1) sc Ls m2) := by
  subst hm
  refine ⟨Z, ho, okM_of hs, ?_⟩
  rw [CC_MM]
  refine Cl.conseq (hM (CC b F1 I1 L R H)) ?_
  rintro o2 m2 hh
  obtain ⟨rfl, rfl⟩ := hZ _ o2 m2 hh
  refine ⟨rfl, b, v1, dx, A1, LA, s1, F1, I1, L, R, H, P, Bn, Fn, Wn, K1, rn, n, nx, tl1, rl, Hs, Gs, ?_, hs, hi⟩
  exact (CC_MM _ _ _ _ _ _ _ _ _ _).symm
theorem IV0.onw (h : IV0 N b v A s F I R P Bn Fn Wn K rn n nx tl rl Hs Gs) : IV0 (N + 1) b v A s F I R P Bn Fn Wn K rn n nx tl rl Hs Gs := h.q (fun _ _ => rfl) (fun _ _ => rfl) (fun _ _ => rfl) (fun _ _ => rfl)
theorem b_seed (h : INV N sc Ls M) (hN : N ≤ 550) (x : Int32) : BTH sc Ls N j_O_seed j_M_seed [.int x] M := by
  obtain ⟨b, v, dx, A, LA, s, F, I, L, R, H, P, Bn, Fn, Wn, K, rn, n, nx, tl, rl, Hs, Gs, rfl, hs, h⟩ := h
  refine Cl.conseq (c_O_seed x) ?_
  rintro o m ⟨h1, h2⟩
  have hM := fun m0 => c_M_seed (m0 := m0) (v := v) (dx := dx) (A := A) (LA := LA) (s := s) (d := 59) x
  by_cases g : x < 0
  · exact bth_s hs (h1 g).1 (h1 g).2 hM (fun m0 o2 m2 z => z.1 g) h.onw
  · refine bth_s (P := P) (Bn := Bn) (Fn := Fn) (Wn := Wn) (rn := rn) (n := n) (nx := nx) (rl := rl) (Hs := Hs) (Gs := Gs) (K1 := K) (tl1 := tl) hs (h2 g).1 (h2 g).2 hM (fun m0 o2 m2 z => ⟨by rw [← h.2.2.1.2.2.2.2.2.1]; exact (z.2 g).1, (z.2 g).2⟩) ?_
    obtain ⟨t, a, ⟨c1, c2, c3, c4, c5, c6, c7, c8, c9⟩, p, e, f, g2, r⟩ := h.onw
    exact ⟨t, a, ⟨c1, c2, c3, c4, c5, rfl, Int32.not_lt.mp g, c8, c9⟩, p, e, f, g2, r⟩
theorem b_force (h : INV N sc Ls M) (hN : N ≤ 550) (x : Int32) : BTH sc Ls N j_O_force j_M_force [.int x] M := by
  obtain ⟨b, v, dx, A, LA, s, F, I, L, R, H, P, Bn, Fn, Wn, K, rn, n, nx, tl, rl, Hs, Gs, rfl, hs, h⟩ := h
  obtain ⟨c1, c2, c3, c4, c5, c6, c7, c8, c9⟩ := h.2.2.1
  refine Cl.conseq (c_O_force c2 c3 x) ?_
  rintro o m ⟨h1, h2⟩
  have hM := fun m0 => c_M_force (m0 := m0) (v := v) (dx := dx) (A := A) (LA := LA) (s := s) (d := 59) (by omega) x
  rw [c1] at hM
  by_cases g : gFo x (nI rn)
  · exact bth_s hs (h1 g).1 (h1 g).2 hM (fun m0 o2 m2 z => z.1 g) h.onw
  · refine bth_s (P := P) (Bn := Bn) (Fn := Fn) (Wn := Wn) (rn := rn) (n := n) (nx := nx) (rl := rl) (Hs := Hs) (Gs := Gs) (K1 := K) (tl1 := tl) hs (h2 g).1 (h2 g).2 hM (fun m0 o2 m2 z => ⟨by rw [← c4]; exact (z.2 g).1, (z.2 g).2⟩) ?_
    obtain ⟨t, a, _, p, e, f, g2, r⟩ := h.onw
    refine ⟨t, a, ⟨c1, c2, c3, rfl, ?_, c6, c7, c8, c9⟩, p, e, f, g2, r⟩
    show vFo rn x
    unfold gFo at g
    by_cases gx : x = -1
    · exact Or.inl gx
    · have g3 : ¬ x < 0 ∧ ¬ nI rn ≤ x := Classical.byContradiction fun z => g ⟨gx, z⟩
      obtain ⟨j, hj, rfl⟩ := nI_of (x := x) g3.1
      refine Or.inr ⟨j, ?_, rfl⟩
      have := mt (nI_leI (a := rn) (b := j) (by omega) hj).mpr g3.2
      omega
theorem i8_all : ∀ i : Fin 256, -128 ≤ (⟨⟨⟨i⟩⟩⟩ : Int8).toInt32 ∧ (⟨⟨⟨i⟩⟩⟩ : Int8).toInt32 ≤ 127 := by decide +kernel
theorem i8_rg : ∀ a : Int8, -128 ≤ a.toInt32 ∧ a.toInt32 ≤ 127
  | ⟨⟨⟨i⟩⟩⟩ => i8_all i
theorem bt_rng (x : Int32) (k : Int32) : -128 ≤ bt x k ∧ bt x k ≤ 127 := i8_rg ((x >>> (k &&& 31)).toInt8.toInt32).toInt8
theorem fr_rng {T : Nat → Int32} (h : ∀ i, -128 ≤ T i ∧ T i ≤ 127) (n : Nat) (x : Int32) : ∀ i, -128 ≤ fr T n x i ∧ fr T n x i ≤ 127 := by
  have u : ∀ (T : Nat → Int32) (k : Nat) (y : Int32), (-128 ≤ y ∧ y ≤ 127) → (∀ i, -128 ≤ T i ∧ T i ≤ 127) → ∀ i, -128 ≤ upd T k y i ∧ upd T k y i ≤ 127 := fun T k y hy hT i => by
    by_cases e : i = k
    · subst e
      rw [upS]
      exact hy
    · rw [upN _ _ e]
      exact hT i
  exact u _ _ _ (bt_rng _ _) (u _ _ _ (bt_rng _ _) (u _ _ _ (bt_rng _ _) (u _ _ _ (bt_rng _ _) h)))
theorem b_feed (h : INV N sc Ls M) (hN : N ≤ 550) (x1 x2 x3 x4 x5 : Int32) : BTH sc Ls N j_O_feed j_M_feed [.int x1, .int x2, .int x3, .int x4, .int x5] M := by
  obtain ⟨b, v, dx, A, LA, s, F, I, L, R, H, P, Bn, Fn, Wn, K, rn, n, nx, tl, rl, Hs, Gs, rfl, hs, h⟩ := h
  obtain ⟨t1, t2, t3, t4, t5⟩ := h.1
  refine Cl.conseq (c_O_feed (by omega) t2 t3 x1 x2 x3 x4 x5) ?_
  rintro o m ⟨h1, h2⟩
  have hM := fun m0 => c_M_feed (m0 := m0) (v := v) (dx := dx) (A := A) (LA := LA) (s := s) (d := 59) (by omega) t1 t3 x1 x2 x3 x4 x5
  by_cases g : 380 < tl
  · exact bth_s hs (h1 g).1 (h1 g).2 hM (fun m0 o2 m2 z => z.1 g) h.onw
  · refine bth_s (P := P) (Bn := Bn) (Fn := Fn) (Wn := Wn) (rn := rn) (n := n) (nx := nx) (rl := rl) (Hs := Hs) (Gs := Gs) (K1 := K) (tl1 := tl + 20) hs (h2 g).1 (h2 g).2 hM (fun m0 o2 m2 z => z.2 g) ?_
    obtain ⟨_, a, c, p, e, f, g2, r⟩ := h.onw
    refine ⟨⟨rfl, rfl, by omega, ?_, fr_rng (fr_rng (fr_rng (fr_rng (fr_rng t5 _ _) _ _) _ _) _ _) _ _⟩, a, c, p, e, f, g2, r⟩
    show fd5 (A 51) tl x1 x2 x3 x4 x5 = fd5 (I 2) tl x1 x2 x3 x4 x5
    rw [t4]
theorem b_end (h : INV N sc Ls M) (hN : N ≤ 550) (x : Int32) : BTH sc Ls N j_O_end j_M_end [.int x] M := by
  obtain ⟨b, v, dx, A, LA, s, F, I, L, R, H, P, Bn, Fn, Wn, K, rn, n, nx, tl, rl, Hs, Gs, rfl, hs, h⟩ := h
  obtain ⟨t1, t2, t3, t4, t5⟩ := h.1
  refine Cl.conseq (c_O_end t2 x) ?_
  rintro o m ⟨h1, h2⟩
  have hM := fun m0 => c_M_end (m0 := m0) (v := v) (dx := dx) (A := A) (LA := LA) (s := s) (d := 59) t1 x
  by_cases g : gEn x tl
  · exact bth_s hs (h1 g).1 (h1 g).2 hM (fun m0 o2 m2 z => z.1 g) h.onw
  · unfold gEn at g
    have g1 : ¬ x < 0 := fun z => g (Or.inl z)
    have g2 : ¬ nI tl < x := fun z => g (Or.inr z)
    obtain ⟨j, hj, rfl⟩ := nI_of (x := x) g1
    have hjl : j ≤ tl := by
      have := mt (nI_ltI (a := tl) (b := j) (by omega) hj).mpr g2
      omega
    refine bth_s (P := P) (Bn := Bn) (Fn := Fn) (Wn := Wn) (rn := rn) (n := n) (nx := nx) (rl := rl) (Hs := Hs) (Gs := Gs) (K1 := K) (tl1 := j) hs (h2 g).1 (h2 g).2 hM (fun m0 o2 m2 z => z.2 g) ?_
    obtain ⟨_, a, c, p, e, f, g2, r⟩ := h.onw
    exact ⟨⟨rfl, rfl, by omega, t4, t5⟩, a, c, p, e, f, g2, r⟩
end NR2
