/-! BOTH: image, back. -/
section NV2
variable {b : xM} {v : Nat → Int32} {dx : Int64} {A : Nat → Nat → Int32} {LA : Nat → Nat → Int64} {s : Nat → Int32} {F I : Nat → Nat → Int32} {L : Nat → Nat → Int64} {R : Nat → Nat → Option Nat} {H : Value} {N P Bn Fn Wn K rn n nx tl : Nat} {rl : xRl} {Hs : Nat → Nat → Int32} {Gs : Nat → Nat → Nat → Int32} {M : xM} {sc : Nat → Int32} {Ls : Nat}
theorem PR.low {t f r : Nat → Int32} (h : PR K s f r) (e : ∀ i, i < 151 → t i = s i) : PR K t f r := by
  obtain ⟨h1, h2, h3, h4, h5, h6⟩ := h
  refine ⟨(e _ (by omega)).trans h1, h2, h3.trans (e _ (by omega)).symm, fun i hi => (h4 i hi).trans (e _ (by omega)).symm, fun k hk => ?_, fun k hk => ?_⟩
  · obtain ⟨x, a, y⟩ := h5 k hk
    exact ⟨x, a, (e _ (by omega)).trans y⟩
  · rw [e _ (by omega)]
    exact h6 k hk
theorem vSa.ext {t : Nat → Int32} (h : vSa N P Bn Fn Wn K s F I) (e : ∀ i, i < 151 → t i = s i) : vSa N P Bn Fn Wn K t F I := h.low (Nat.le_refl _) (fun i hi => e i (by omega)) (h.2.2.2.2.1.low e) rfl rfl (fun _ _ _ => rfl)
theorem vIw.ext {si t : Nat → Int32} {x y : Int32} {G : Nat → Nat → Int32} (h : vIw N rn si x y G) (e : ∀ i, i < 151 → t i = si i) : vIw N rn t x y G := by
  obtain ⟨P, Bn, Fn, Wn, K, F, I, g1, g2, g3⟩ := h
  exact ⟨P, Bn, Fn, Wn, K, F, I, g1, vSa.ext g2 e, g3⟩
theorem IC_MM {a : Nat} {G : Nat → Nat → Int32} (h : 69 ≤ a) : IC (MM b v dx A LA) a G = MM (IC b a G) v dx A LA := by
  refine Prod.ext rfl (Prod.ext rfl (funext fun k => ?_))
  show (if a ≤ k ∧ k < a + 12 then icell a (G (k - a)) (k - a) else if 50 ≤ k ∧ k < 69 then mcell v dx A LA k else b.2.2 k) = (if 50 ≤ k ∧ k < 69 then mcell v dx A LA k else if a ≤ k ∧ k < a + 12 then icell a (G (k - a)) (k - a) else b.2.2 k)
  by_cases h1 : 50 ≤ k ∧ k < 69
  · rw [if_pos h1, if_pos h1, if_neg (by omega)]
  · rw [if_neg h1, if_neg h1]
theorem imN_new {k a : Nat} (hk : k < 4) (h : R 7 k = none) : imN (va_up R 7 (va_up (R 7) k (some a))) = imN R + 1 := by
  have e : ∀ j, j ≠ k → va_up R 7 (va_up (R 7) k (some a)) 7 j = R 7 j := fun j hj => up_ne (R 7) (some a) hj
  have ek : va_up R 7 (va_up (R 7) k (some a)) 7 k = some a := va_up_self (R 7) k (some a)
  have i1 : (if (some a : Option Nat) = none then (0 : Nat) else 1) = 1 := if_neg (fun z => nomatch z)
  have i0 : (if (none : Option Nat) = none then (0 : Nat) else 1) = 0 := if_pos rfl
  unfold imN
  obtain rfl | rfl | rfl | rfl : k = 0 ∨ k = 1 ∨ k = 2 ∨ k = 3 := by omega
  · rw [ek, e 1 (by omega), e 2 (by omega), e 3 (by omega), h, i1, i0]
    try omega
  · rw [ek, e 0 (by omega), e 2 (by omega), e 3 (by omega), h, i1, i0]
    try omega
  · rw [ek, e 0 (by omega), e 1 (by omega), e 3 (by omega), h, i1, i0]
    try omega
  · rw [ek, e 0 (by omega), e 1 (by omega), e 2 (by omega), h, i1, i0]
    try omega
/-- an image is kept at a, in the base b' -/
theorem IV0.im {b' : xM} {R' : Nat → Nat → Option Nat} {G1 : Nat → Nat → Int32} {k a : Nat} (h : IV0 N b v A s F I R P Bn Fn Wn K rn n nx tl rl Hs Gs) (hk : k < 4) (hG : IMG F I G1) (hR6 : R' 6 = R 6) (hRk : R' 7 k = some a) (hRo : ∀ j, j ≠ k → R' 7 j = R 7 j) (ha : 69 ≤ a) (ha2 : a + 12 ≤ b'.1) (hb : b.1 ≤ b'.1) (hbi : isImg b' a G1) (hbo : ∀ i, ¬ (a ≤ i ∧ i < a + 12) → b'.2.2 i = b.2.2 i) (hd1 : ∀ r x, r < rn → R 6 r = some x → x + 3 ≤ b.1 → x + 3 ≤ a ∨ a + 12 ≤ x) (hd2 : ∀ j i, j < 4 → j ≠ k → R 7 j = some i → i + 12 ≤ b.1 → a + 12 ≤ i ∨ i + 12 ≤ a) (hro : vRo b' R' rn) : IV0 (N + 1) b' v (imA v s A k) s F I R' P Bn Fn Wn K rn n nx tl rl Hs (va_up Gs k G1) := by
  obtain ⟨t, sa, c, p, e, f, ⟨g3, g4⟩, r⟩ := h.onw
  have hsa := h.2.1
  obtain ⟨c1, c2, c3, c4, c5, c6, c7, c8, c9⟩ := c
  refine ⟨t, sa, ⟨c1, c2, c3, c4, c5, c6, c7, c8, c9⟩, p, fun x hx => ?_, fun j hj => ?_, ⟨?_, ?_⟩, hro⟩
  · obtain ⟨q0, a2, q1, q2, q3, q4⟩ := e x hx
    refine ⟨q0, a2, by rw [hR6]; exact q1, q2, by omega, fun b2 hb2 => q4 b2 (fun i i1 i2 => (hb2 i i1 i2).trans (hbo i ?_))⟩
    have := hd1 x a2 hx q1 q3
    omega
  · by_cases ej : j = k
    · subst ej
      refine Or.inr ⟨a, hRk, ?_, ha, ha2, by rw [va_up_self]; exact hbi, ?_⟩
      · show ¬ upd (A 68) j 1 j = 0
        rw [upS]
        decide
      · rw [va_up_self]
        refine ⟨P, Bn, Fn, Wn, K, F, I, hG, vSa.ext sa (fun i hi => ?_), ?_, ?_, c5, c7⟩
        · show cpi (A 65) s j 151 (151 * j + i) = s i
          refine (if_pos (by omega)).trans ?_
          rw [Nat.add_sub_cancel_left]
        · show upd (A 66) j (v 21) j = _
          rw [upS]
          exact c4
        · show upd (A 67) j (v 22) j = _
          rw [upS]
          exact c6
    · have hA68 : imA v s A k 68 j = A 68 j := upN _ _ ej
      have hA66 : imA v s A k 66 j = A 66 j := upN _ _ ej
      have hA67 : imA v s A k 67 j = A 67 j := upN _ _ ej
      rw [hRo j ej, hA68, hA66, hA67, up_ne _ _ ej]
      rcases f j hj with q | ⟨a2, q1, q2, q3, q4, q5, q6⟩
      · exact Or.inl q
      · refine Or.inr ⟨a2, q1, q2, q3, by omega, fun i hi => ?_, q6.ext (fun i hi => ?_)⟩
        · rw [hbo _ (by have := hd2 j a2 hj ej q1 q4; omega)]
          exact q5 i hi
        · show cpi (A 65) s k 151 (151 * j + i) = A 65 (151 * j + i)
          exact if_neg (by omega)
  · intro x j a2 i hx hj e1 e2
    rw [hR6] at e1
    obtain ⟨q0, a3, q1, q2, q3, q4⟩ := e x hx
    rw [q1] at e1
    obtain rfl := Option.some.inj e1
    by_cases ej : j = k
    · subst ej
      rw [hRk] at e2
      obtain rfl := Option.some.inj e2
      exact hd1 x a3 hx q1 q3
    · rw [hRo j ej] at e2
      exact g3 x j a3 i hx hj q1 e2
  · intro j j' i i' hj hj' hjj e1 e2
    by_cases ej : j = k
    · have ej' : j' ≠ k := by omega
      subst ej
      rw [hRk] at e1
      obtain rfl := Option.some.inj e1
      rw [hRo j' ej'] at e2
      rcases f j' hj' with ⟨q, _⟩ | ⟨a2, q1, _, _, q4, _⟩
      · rw [q] at e2
        exact nomatch e2
      · rw [q1] at e2
        obtain rfl := Option.some.inj e2
        exact hd2 j' a2 hj' ej' q1 q4
    · rw [hRo j ej] at e1
      by_cases ej' : j' = k
      · subst ej'
        rw [hRk] at e2
        obtain rfl := Option.some.inj e2
        rcases f j hj with ⟨q, _⟩ | ⟨a2, q1, _, _, q4, _⟩
        · rw [q] at e1
          exact nomatch e1
        · rw [q1] at e1
          obtain rfl := Option.some.inj e1
          exact (hd2 j a2 hj ej q1 q4).symm
      · rw [hRo j' ej'] at e2
        exact g4 j j' i i' hj hj' hjj e1 e2
theorem b_image (h : INV N sc Ls M) (hN : N ≤ 550) (x : Int32) : BTH sc Ls N j_O_image j_M_image [.int x] M := by
  obtain ⟨b, v, dx, A, LA, s, F, I, L, R, H, P, Bn, Fn, Wn, K, rn, n, nx, tl, rl, Hs, Gs, rfl, hs, h⟩ := h
  have hro := h.2.2.2.2.2.2.2
  have him4 := imN_le R
  have hxS : xS = 1000000 := rfl
  have hb1 := hro.2.1
  have hr6 : rn ≤ 6 := h.2.2.1.2.2.1
  have f := h.2.2.2.2.2.1
  have e := h.2.2.2.2.1
  have g34 := h.2.2.2.2.2.2.1
  have him : ∀ k a, k < 4 → R 7 k = some a → 50 ≤ a ∧ a + 12 ≤ xS ∧ isImg (MS b v dx A LA s) a (Gs k) := fun k a hk hR => by
    rcases f k hk with ⟨q, _⟩ | ⟨a2, q1, _, q3, q4, q5, _⟩
    · rw [q] at hR
      exact nomatch hR
    · rw [q1] at hR
      obtain rfl := Option.some.inj hR
      exact ⟨by omega, by omega, fun i hi => (if_neg (by omega)).trans (q5 i hi)⟩
  have hM := fun m0 => c_M_image (m0 := m0) (v := v) (dx := dx) (A := A) (LA := LA) (s := s) (d := 59) (by omega) x
  refine Cl.conseq (c_O_image (Gs := Gs) (by omega) (by show 50 ≤ b.1; omega) (by show b.1 + 12 ≤ xS; omega) him x) ?_
  rintro o m ⟨h1, h2⟩
  by_cases g : gIm x
  · exact bth_s hs (h1 g).1 (h1 g).2 hM (fun m0 o2 m2 z => z.1 g) h.onw
  · have gx : 0 ≤ x ∧ x ≤ 3 := Classical.byContradiction fun z => g z
    obtain ⟨k, hk3, rfl⟩ := xN (lo := 0) (hi := 3) (n := 3) (by decide) (by decide) gx
    rw [nI_clamp (by omega)] at h2 hM
    have hk : k < 4 := by omega
    obtain ⟨ho, hc⟩ := h2 g
    have h31 : I 9 31 = s 6 := h.2.1.2.2.2.1.d
    rcases hc with ⟨a, G1, hR, hG, rfl⟩ | ⟨hR, G1, hG, rfl⟩
    · rcases f k hk with ⟨q, _⟩ | ⟨a2, q1, _, q3, q4, q5, _⟩
      · rw [q] at hR
        exact nomatch hR
      rw [q1] at hR
      obtain rfl := Option.some.inj hR
      rw [show MS b v dx A LA s = MM b v dx (va_up A 60 s) LA from rfl, IC_MM q3]
      refine ⟨s 6, by rw [ho, h31], okM_of ((IC_out (by omega)).trans hs), ?_⟩
      rw [CC_MM]
      refine Cl.conseq (hM (CC (IC b a2 G1) F I L R H)) ?_
      rintro o2 m2 ⟨_, k2⟩
      obtain ⟨rfl, rfl⟩ := k2 g
      have hlo : ∀ i, ¬ (a2 ≤ i ∧ i < a2 + 12) → (IC b a2 G1).2.2 i = b.2.2 i := fun i hi => IC_out hi
      refine ⟨rfl, IC b a2 G1, v, dx, imA v s A k, LA, s, F, I, L, R, H, P, Bn, Fn, Wn, K, rn, n, nx, tl, rl, Hs, va_up Gs k G1, (CC_MM _ _ _ _ _ _ _ _ _ _).symm, ?_, ?_⟩
      · rw [hlo _ (by omega)]
        exact hs
      · refine h.im (b' := IC b a2 G1) (R' := R) hk hG rfl q1 (fun _ _ => rfl) q3 q4 (Nat.le_refl _) IC_img hlo (fun r y hr hy _ => g34.1 r k y a2 hr hk hy q1) (fun j i hj hjk hi _ => g34.2 k j a2 i hk hj (Ne.symm hjk) q1 hi) ⟨fun j hj => ?_, hb1, hro.2.2⟩
        rw [hlo _ (by omega), hlo _ (by omega)]
        exact hro.1 j hj
    · rw [show ((MS b v dx A LA s).1 + 12, (MS b v dx A LA s).2.1 + 168, (MS b v dx A LA s).2.2) = MM (b.1 + 12, b.2.1 + 168, b.2.2) v dx (va_up A 60 s) LA from rfl, show (MS b v dx A LA s).1 = b.1 from rfl, IC_MM (by omega)]
      refine ⟨s 6, by rw [ho, h31], okM_of ((IC_out (m0 := (b.1 + 12, b.2.1 + 168, b.2.2)) (by omega)).trans hs), ?_⟩
      rw [CC_MM]
      refine Cl.conseq (hM (CC (IC (b.1 + 12, b.2.1 + 168, b.2.2) b.1 G1) F I L (va_up R 7 (va_up (R 7) k (some b.1))) H)) ?_
      rintro o2 m2 ⟨_, k2⟩
      obtain ⟨rfl, rfl⟩ := k2 g
      have hlo : ∀ i, ¬ (b.1 ≤ i ∧ i < b.1 + 12) → (IC (b.1 + 12, b.2.1 + 168, b.2.2) b.1 G1).2.2 i = b.2.2 i := fun i hi => IC_out hi
      have hnew := imN_new (a := b.1) hk hR
      refine ⟨rfl, IC (b.1 + 12, b.2.1 + 168, b.2.2) b.1 G1, v, dx, imA v s A k, LA, s, F, I, L, va_up R 7 (va_up (R 7) k (some b.1)), H, P, Bn, Fn, Wn, K, rn, n, nx, tl, rl, Hs, va_up Gs k G1, (CC_MM _ _ _ _ _ _ _ _ _ _).symm, ?_, ?_⟩
      · rw [hlo _ (by omega)]
        exact hs
      · refine h.im (b' := IC (b.1 + 12, b.2.1 + 168, b.2.2) b.1 G1) (R' := va_up R 7 (va_up (R 7) k (some b.1))) hk hG rfl (va_up_self _ _ _) (fun j hj => up_ne _ _ hj) (by omega) (Nat.le_refl _) (Nat.le_add_right _ _) IC_img hlo (fun r y hr hy hle => Or.inl hle) (fun j i hj hjk hi hle => Or.inr hle) ⟨fun j hj => ?_, ?_, ?_⟩
        · rw [hlo _ (by omega), hlo _ (by omega)]
          exact hro.1 j hj
        · rw [hnew]
          show b.1 + 12 = _
          omega
        · rw [hnew]
          show b.2.1 + 168 ≤ _
          have := hro.2.2
          omega
theorem b_back (h : INV N sc Ls M) (hN : N ≤ 550) (x : Int32) : BTH sc Ls N j_O_back j_M_back [.int x] M := by
  obtain ⟨b, v, dx, A, LA, s, F, I, L, R, H, P, Bn, Fn, Wn, K, rn, n, nx, tl, rl, Hs, Gs, rfl, hs, h⟩ := h
  have hro := h.2.2.2.2.2.2.2
  have him4 := imN_le R
  have hxS : xS = 1000000 := rfl
  have hb1 := hro.2.1
  have hr6 : rn ≤ 6 := h.2.2.1.2.2.1
  have f := h.2.2.2.2.2.1
  have him : ∀ k a, k < 4 → R 7 k = some a → 50 ≤ a ∧ a + 12 ≤ xS ∧ isImg (MS b v dx A LA s) a (Gs k) := fun k a hk hR => by
    rcases f k hk with ⟨q, _⟩ | ⟨a2, q1, _, q3, q4, q5, _⟩
    · rw [q] at hR
      exact nomatch hR
    · rw [q1] at hR
      obtain rfl := Option.some.inj hR
      exact ⟨by omega, by omega, fun i hi => (if_neg (by omega)).trans (q5 i hi)⟩
  have hM := fun m0 => c_M_back (m0 := m0) (v := v) (dx := dx) (A := A) (LA := LA) (s := s) (d := 59) (by omega) x
  have hgg : gBkC R x ↔ gBk A x := by
    unfold gBkC gBk
    by_cases gx : 0 ≤ x ∧ x ≤ 3
    · obtain ⟨k, hk3, rfl⟩ := xN (lo := 0) (hi := 3) (n := 3) (by decide) (by decide) gx
      rw [nI_clamp (by omega)]
      rcases f k (by omega) with ⟨q, q2⟩ | ⟨a2, q1, q2, _⟩
      · exact ⟨fun _ => Or.inr q2, fun _ => Or.inr q⟩
      · refine ⟨fun z => ?_, fun z => ?_⟩
        · rcases z with z | z
          · exact absurd gx z
          · rw [q1] at z
            exact nomatch z
        · rcases z with z | z
          · exact absurd gx z
          · exact absurd z q2
    · exact ⟨fun _ => Or.inl gx, fun _ => Or.inl gx⟩
  refine Cl.conseq (c_O_back (Gs := Gs) (by omega) him x) ?_
  rintro o m ⟨h1, h2⟩
  by_cases g : gBkC R x
  · exact bth_s hs (h1 g).1 (h1 g).2 hM (fun m0 o2 m2 z => z.1 (hgg.mp g)) h.onw
  · have gx : 0 ≤ x ∧ x ≤ 3 := Classical.byContradiction fun z => g (Or.inl z)
    obtain ⟨k, hk3, rfl⟩ := xN (lo := 0) (hi := 3) (n := 3) (by decide) (by decide) gx
    have g2 : ¬ gBk A (nI k) := fun z => g (hgg.mpr z)
    have g0 : ¬ R 7 k = none := fun z => g (Or.inr (by rw [nI_clamp (by omega)]; exact z))
    rw [nI_clamp (by omega)] at h2 hM
    obtain ⟨ho, F1, I1, rfl, u1, u2, u3, u4, u5⟩ := h2 g
    rcases f k (by omega) with ⟨q, _⟩ | ⟨a2, q1, q2, q3, q4, q5, P2, B2, F2, W2, K2, FF, II, y1, y2, y3, y4, y5, y6⟩
    · exact absurd q g0
    obtain ⟨⟨z18, z19, z20, z21, z22⟩, ⟨zf6, zf7, zf8, zf9, zf10, zf11, zf12⟩, z9, z13, zp, z3, z4⟩ := y1
    obtain ⟨⟨x18, x19, x20, x21, x22⟩, ⟨xf6, xf7, xf8, xf9, xf10, xf11, xf12⟩, x9, x13, xp, x3, x4⟩ := u5
    have hans : Gs k 9 31 = A 65 (151 * k + 6) := (z9 31 (by omega)).trans y2.2.2.2.1.d
    refine ⟨A 65 (151 * k + 6), by rw [ho, hans], okM_of hs, ?_⟩
    rw [CC_MM]
    refine Cl.conseq (hM (CC b F1 I1 L R H)) ?_
    rintro o2 m2 ⟨_, k2⟩
    obtain ⟨rfl, rfl⟩ := k2 g2
    obtain ⟨⟨t1, t2, t3, t4, t5⟩, _, ⟨c1, c2, c3, c4, c5, c6, c7, c8, c9⟩, p, e, f', g', r⟩ := h.onw
    refine ⟨rfl, b, bkV v A k, dx, A, LA, bkS s A k, F1, I1, L, R, H, P2, B2, F2, W2, K2, rn, 0, nx, tl, rl, Hs, Gs, (CC_MM _ _ _ _ _ _ _ _ _ _).symm, hs, ⟨t1, by rw [u1 1 (by omega) (by omega) (by omega) (by omega)]; exact t2, t3, by rw [u4 2 (by omega) (by omega) (by omega)]; exact t4, by rw [u4 2 (by omega) (by omega) (by omega)]; exact t5⟩, ?_, ?_, ⟨rfl, fun i hi => absurd hi (Nat.not_lt_zero _), ?_, fun i hi => absurd hi (Nat.not_lt_zero _)⟩, e, f', g', r⟩
    · refine vSa.ext (s := fun i => A 65 (151 * k + i)) ?_ (fun i hi => if_pos hi)
      obtain ⟨a1, a2', a3, a4, a5, a6⟩ := y2
      obtain ⟨d1, d2, d3, d4⟩ := a1.bds
      refine ⟨a1, ?_, a3, a4.ext d2 (fun i hi => (x9 i hi).symm.trans (z9 i hi)), ?_, a6.up (Nat.le_succ N)⟩
      · obtain ⟨l1, l2, l3, l4, l5, l6, l7, l8, l9, l10, l11, l12⟩ := a2'
        exact ⟨(xf6.symm.trans zf6).trans l1, (xf7.symm.trans zf7).trans l2, (xf8.symm.trans zf8).trans l3, (xf9.symm.trans zf9).trans l4, (xf10.symm.trans zf10).trans l5, (xf11.symm.trans zf11).trans l6, (xf12.symm.trans zf12).trans l7, fun j hj => ((x18 j (by omega)).symm.trans (z18 j (by omega))).trans (l8 j hj), fun j hj => ((x19 j (by omega)).symm.trans (z19 j (by omega))).trans (l9 j hj), fun j hj => ((x20 j (by omega)).symm.trans (z20 j (by omega))).trans (l10 j hj), fun j hj => ((x21 j (by omega)).symm.trans (z21 j (by omega))).trans (l11 j hj), fun j hj => ((x22 j (by omega)).symm.trans (z22 j (by omega))).trans (l12 j hj)⟩
      · obtain ⟨h1', h2', h3', h4', h5', h6'⟩ := a5
        exact ⟨h1', h2', (xp.symm.trans zp).trans h3', fun i hi => ((x13 i (by omega)).symm.trans (z13 i (by omega))).trans (h4' i hi), h5', h6'⟩
    · have e13 : F1 0 13 = FF 0 13 := x3.symm.trans z3
      have e14 : F1 0 14 = FF 0 14 := x4.symm.trans z4
      refine ⟨c1, ?_, c3, ?_, by rw [e13]; exact y5, ?_, by rw [e14]; exact y6, c8, c9⟩
      · rw [u2, upN _ _ (by omega), upN _ _ (by omega)]
        exact c2
      · rw [e13, ← y3]
        rfl
      · rw [e14, ← y4]
        rfl
    · obtain ⟨v1, v2, v3, v4, _⟩ := p.2.2.1
      rw [u3, u4 11 (by omega) (by omega) (by omega)]
      exact ⟨v1, v2, rfl, by omega, fun i hi => absurd hi (Nat.not_lt_zero _)⟩
end NV2
