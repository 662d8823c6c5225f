/-! BOTH: rule. -/
section NU2
variable {b : xM} {v : Nat → Int32} {dx : Int64} {A : Nat → Nat → Int32} {LA : Nat → Nat → Int64} {s : Nat → Int32} {F I : Nat → Nat → Int32} {L : Nat → Nat → Int64} {R : Nat → Nat → Option Nat} {H : Value} {N P Bn Fn Wn K rn n nx tl : Nat} {rl : xRl} {Hs : Nat → Nat → Int32} {Gs : Nat → Nat → Nat → Int32} {M : xM} {sc : Nat → Int32} {Ls : Nat}
theorem RuW.lo {A1 : Nat → Nat → Int32} {r : Nat} {ts : Nat → Nat × Nat} {Mx : Nat} {Lc : List xCl4} (h : RuW A r ts Mx Lc) (hr : r < rn) (h2 : ∀ k, k < 400 * rn → A1 52 k = A 52 k) (h4 : ∀ k, k < 48 * rn → A1 54 k = A 54 k) (h5 : ∀ k, k ≠ rn → A1 55 k = A 55 k) : RuW A1 r ts Mx Lc := by
  obtain ⟨q1, q2, q3, q4, q5⟩ := h
  refine ⟨(h5 r (by omega)).trans q1, q2, q3, fun i hi => ⟨(h2 _ (by omega)).trans (q4 i hi).1, (q4 i hi).2⟩, fun c q hq => ?_⟩
  have hc : c < Lc.length := (List.getElem?_eq_some_iff.mp hq).1
  obtain ⟨e0, e1, e2, e3, rest⟩ := q5 c q hq
  exact ⟨(h4 _ (by omega)).trans e0, (h4 _ (by omega)).trans e1, (h4 _ (by omega)).trans e2, (h4 _ (by omega)).trans e3, rest⟩
theorem NM_MM {sl : Nat} {f : List xC} (h : 69 ≤ b.1) : NM (MM b v dx A LA) sl f = MM (NM b sl f) v dx A LA := by
  refine Prod.ext rfl (Prod.ext rfl (funext fun k => ?_))
  show (if b.1 ≤ k ∧ k < b.1 + f.length then f[k - b.1]? else if 50 ≤ k ∧ k < 69 then mcell v dx A LA k else b.2.2 k) = (if 50 ≤ k ∧ k < 69 then mcell v dx A LA k else if b.1 ≤ k ∧ k < b.1 + f.length then f[k - b.1]? else b.2.2 k)
  by_cases h1 : 50 ≤ k ∧ k < 69
  · rw [if_pos h1, if_pos h1, if_neg (by omega)]
  · rw [if_neg h1, if_neg h1]
theorem NM_lo {sl k : Nat} {f : List xC} (h : k < b.1 ∨ b.1 + f.length ≤ k) : (NM b sl f).2.2 k = b.2.2 k := if_neg (by omega)
theorem vFo.up {x : Int32} (h : vFo rn x) : vFo (rn + 1) x := by
  rcases h with h | ⟨r, h1, h2⟩
  · exact Or.inl h
  · exact Or.inr ⟨r, by omega, h2⟩
theorem b_rule (h : INV N sc Ls M) (hN : N ≤ 550) : BTH sc Ls N j_O_rule j_M_rule [] M := by
  obtain ⟨b, v, dx, A, LA, s, F, I, L, R, H, P, Bn, Fn, Wn, K, rn, n, nx, tl, rl, Hs, Gs, rfl, hs, h⟩ := h
  obtain ⟨t1, t2, t3, t4, t5⟩ := h.1
  obtain ⟨c1, c2, c3, c4, c5, c6, c7, c8, c9⟩ := h.2.2.1
  have hro := h.2.2.2.2.2.2.2
  have him4 := imN_le R
  have hxS : xS = 1000000 := rfl
  have hb1 := hro.2.1
  have hS : STR0 (MS b v dx A LA s) := fun k hk => by
    have := hro.1 k hk
    exact ⟨(if_neg (by omega)).trans this.1, (if_neg (by omega)).trans this.2⟩
  have hM := fun m0 => x_rule (m0 := m0) (v := v) (dx := dx) (A := va_up A 60 s) (LA := LA) (d := 59) (T := I 2) (n := tl) (r := rn) (by omega) (by exact t4) t1 t3 t5 c1 c3
  refine Cl.conseq (c_O_rule (n := tl) (rn := rn) (by omega) hS (by show 50 ≤ b.1; omega) (by show b.1 + 3 ≤ xS; omega) c2 c3 t2 t3 t5) ?_
  rintro o m ⟨h1, h2⟩
  by_cases h6 : rn < 6
  rotate_left
  · obtain ⟨rfl, rfl⟩ := h1 h6
    refine ⟨_, rfl, okM_of hs, ?_⟩
    rw [CC_MM]
    refine Cl.conseq (hM (CC b F I L R H)) ?_
    rintro o2 m2 ⟨k1, _⟩
    obtain ⟨rfl, rfl⟩ := k1 h6
    exact ⟨rfl, b, v, dx, A, LA, s, F, I, L, R, H, P, Bn, Fn, Wn, K, rn, n, nx, tl, rl, Hs, Gs, (CC_MM _ _ _ _ _ _ _ _ _ _).symm, hs, h.onw⟩
  have hg := h2 h6
  -- the model's memory behind
  have back : ∀ (m0 : xM) (v1 : Nat → Int32) (A1 : Nat → Nat → Int32), xFD (upd v 11 (nI rn)) (va_up (va_up A 60 s) 55 (upd (va_up A 60 s 55) rn 0)) (upd v1 2 (v 2)) A1 rn → (∀ i, i = 21 ∨ i = 22 ∨ i = 23 ∨ i = 24 ∨ i = 27 → v1 i = v i) ∧ MM m0 v1 dx A1 LA = MS m0 v1 dx A1 LA s ∧ (∀ k, k = 51 ∨ k = 61 ∨ k = 65 ∨ k = 66 ∨ k = 67 ∨ k = 68 → A1 k = A k) ∧ ∀ r, r < rn → RuW A1 r (rl r).1 (rl r).2.1 (rl r).2.2 := by
    intro m0 v1 A1 hF
    refine ⟨fun i hi => ?_, ?_, fun k hk => ?_, fun r hr => ?_⟩
    · have := hF.1 i (by omega) (by omega) (by omega) (by omega) (by omega) (by omega) (by omega) (by omega)
      rw [upN _ _ (by omega), upN _ _ (by omega)] at this
      exact this
    · have e60 : A1 60 = s := hF.2.1 60 (by omega) (by omega) (by omega) (by omega) (by omega)
      show _ = MM m0 v1 dx (va_up A1 60 s) LA
      rw [← e60, up_id]
    · rw [hF.2.1 k (by omega) (by omega) (by omega) (by omega) (by omega), up_ne _ _ (by omega), up_ne _ _ (by omega)]
    · refine (h.2.2.2.2.1 r hr).1.lo hr (fun k hk => ?_) (fun k hk => ?_) (fun k hk => ?_)
      · exact hF.2.2.1 k hk
      · exact hF.2.2.2.2.1 k hk
      · rw [hF.2.2.2.2.2 k hk]
        exact if_neg hk
  cases hX : gRd (I 2) tl 13 (skE (I 2) tl 0, 0, []) [] with
  | inl e =>
    rw [hX] at hg hM
    obtain ⟨rfl, F1, I1, rfl, ⟨u1, u2⟩, u3⟩ := hg
    refine ⟨_, rfl, okM_of hs, ?_⟩
    rw [CC_MM]
    refine Cl.conseq (hM (CC b F1 I1 L R H)) ?_
    rintro o2 m2 ⟨_, k2⟩
    obtain ⟨v1, A1, rfl, hF, w4, rfl, w5⟩ := k2 h6
    obtain ⟨b1, b2, b3, b4⟩ := back (CC b F1 I1 L R H) v1 A1 hF
    rw [b2]
    refine ⟨rfl, b, v1, dx, A1, LA, s, F1, I1, L, R, H, P, Bn, Fn, Wn, K, rn, n, nx, 0, rl, Hs, Gs, (CC_MM _ _ _ _ _ _ _ _ _ _).symm, hs, h.kp ⟨w4, u3, by omega, ?_, ?_⟩ (fun k hk => u1 k (by omega) (by omega)) (fun k hk => u2 k (by omega) (by omega)) (fun i hi => ?_) (fun k hk => b3 k (by omega)) b4⟩
    · rw [b3 51 (by omega), u2 2 (by omega) (by omega)]
      exact t4
    · rw [u2 2 (by omega) (by omega)]
      exact t5
    · by_cases e2 : i = 2
      · subst e2
        exact w5.trans c1.symm
      · exact b1 i (by omega)
  | inr z =>
    have hall := gRd_k t5 13 (skE (I 2) tl 0, 0, []) [] z (skE_le (Nat.zero_le _)) ⟨fun t ht => absurd ht List.not_mem_nil, fun q hq => absurd hq List.not_mem_nil, rfl⟩ hX
    rw [hX] at hg hM
    obtain ⟨rfl, z4, z12, F1, I1, g1, g2, rfl, u1, u2, u3, u4, u5, u6⟩ := hg
    have hb69 : 69 ≤ b.1 := by omega
    rw [show MS b v dx A LA s = MM b v dx (va_up A 60 s) LA from rfl, NM_MM hb69]
    refine ⟨_, rfl, okM_of ((NM_lo (Or.inr (show b.1 + 3 ≤ xS + 60 by omega))).trans hs), ?_⟩
    rw [CC_MM]
    generalize hb' : NM b (2 + z.1.2.2.length + 2 * z.2.length) [.inr (6, [.ref ((MM b v dx (va_up A 60 s) LA).1 + 1), .ref ((MM b v dx (va_up A 60 s) LA).1 + 2)]), .inl (0, z.1.2.2.length, xints g1), .inl (0, 2 * z.2.length, xints g2)] = b'
    have bl : ∀ k, k < b.1 ∨ b.1 + 3 ≤ k → b'.2.2 k = b.2.2 k := fun k hk => by rw [← hb']; exact NM_lo hk
    have bn1 : b'.1 = b.1 + 3 := by rw [← hb']; rfl
    have bn2 : b'.2.1 = b.2.1 + (2 + z.1.2.2.length + 2 * z.2.length) := by rw [← hb']; rfl
    have bc0 : b'.2.2 b.1 = some (.inr (6, [.ref (b.1 + 1), .ref (b.1 + 2)])) := by rw [← hb']; exact NM_at (i := 0) (show 0 < 3 by omega)
    have bc1 : b'.2.2 (b.1 + 1) = some (.inl (0, z.1.2.2.length, xints g1)) := by rw [← hb']; exact NM_at (i := 1) (show 1 < 3 by omega)
    have bc2 : b'.2.2 (b.1 + 2) = some (.inl (0, 2 * z.2.length, xints g2)) := by rw [← hb']; exact NM_at (i := 2) (show 2 < 3 by omega)
    clear hb'
    refine Cl.conseq (hM (CC b' F1 I1 L (va_up R 6 (va_up (R 6) rn (some b.1))) H)) ?_
    rintro o2 m2 ⟨_, k2⟩
    obtain ⟨v1, A1, rfl, hF, w4, rfl, w5, w6, w7, w8⟩ := k2 h6
    obtain ⟨b1, b2, b3, b4⟩ := back (CC b' F1 I1 L (va_up R 6 (va_up (R 6) rn (some b.1))) H) v1 A1 hF
    rw [b2]
    obtain ⟨_, a, _, p, e, f, ⟨g3, g4⟩, r⟩ := h.onw
    have f0 : F1 0 = upd (F 0) 12 (nI (rn + 1)) := u2
    refine ⟨rfl, b', v1, dx, A1, LA, s, F1, I1, L, va_up R 6 (va_up (R 6) rn (some b.1)), H, P, Bn, Fn, Wn, K, rn + 1, n, nx, 0, va_up rl rn (rlK z), Hs, Gs, (CC_MM _ _ _ _ _ _ _ _ _ _).symm, ?_, ⟨w4, u3, by omega, ?_, ?_⟩, ?_, ?_, ?_, ?_, ?_, ⟨?_, ?_⟩, ?_⟩
    · rw [bl _ (by omega)]
      exact hs
    · rw [b3 51 (by omega), u4 2 (by omega) (by omega)]
      exact t4
    · rw [u4 2 (by omega) (by omega)]
      exact t5
    · exact a.low (Nat.le_refl _) (fun _ _ => rfl) (by rw [u1 12 (by omega) (by omega) (by omega), u4 13 (by omega) (by omega)]; exact a.2.2.2.2.1) (u1 17 (by omega) (by omega) (by omega)) (u4 9 (by omega) (by omega)) (fun k h1 h2 => u4 k (by omega) (by omega))
    · show v1 2 = nI (rn + 1) ∧ F1 0 12 = nI (rn + 1) ∧ rn + 1 ≤ 6 ∧ v1 21 = F1 0 13 ∧ vFo (rn + 1) (F1 0 13) ∧ v1 22 = F1 0 14 ∧ 0 ≤ F1 0 14 ∧ v1 23 = -1 ∧ v1 24 = 0
      rw [f0, upS, upN _ _ (by omega), upN _ _ (by omega)]
      exact ⟨w5, rfl, by omega, (b1 21 (by omega)).trans c4, vFo.up c5, (b1 22 (by omega)).trans c6, c7, (b1 23 (by omega)).trans c8, (b1 24 (by omega)).trans c9⟩
    · obtain ⟨p1, p2, p3, p4⟩ := p
      exact ⟨(b1 27 (by omega)).trans p1, by rw [b3 61 (by omega)]; exact p2, by rw [u1 10 (by omega) (by omega) (by omega), u4 11 (by omega) (by omega)]; exact p3, p4⟩
    · intro x hx
      by_cases ex : x = rn
      · subst ex
        rw [va_up_self]
        refine ⟨RuW_of hall z4 z12 w6 w7 w8, b.1, ?_, by omega, by omega, fun b2 hb2 => ?_⟩
        · show va_up (R 6) x (some b.1) x = _
          exact va_up_self _ _ _
        · exact RuC_of hall z4 z12 (by omega) ((hb2 _ (by omega) (by omega)).trans bc0) ((hb2 _ (by omega) (by omega)).trans bc1) ((hb2 _ (by omega) (by omega)).trans bc2) u5 u6
      · rw [up_ne _ _ ex]
        obtain ⟨_, a2, q1, q2, q3, q4⟩ := e x (by omega)
        refine ⟨b4 x (by omega), a2, ?_, q2, by omega, fun b2 hb2 => q4 b2 (fun k k1 k2 => (hb2 k k1 k2).trans (bl k (by omega)))⟩
        show va_up (R 6) rn (some b.1) x = _
        rw [up_ne _ _ ex]
        exact q1
    · intro k hk
      rw [b3 65 (by omega), b3 66 (by omega), b3 67 (by omega), b3 68 (by omega)]
      rcases f k hk with q | ⟨a2, q1, q2, q3, q4, q5, P2, B2, F2, W2, K2, FF, II, y1, y2, y3, y4, y5, y6⟩
      · exact Or.inl q
      · exact Or.inr ⟨a2, q1, q2, q3, by omega, fun i hi => (bl _ (by omega)).trans (q5 i hi), P2, B2, F2, W2, K2, FF, II, y1, y2, y3, y4, vFo.up y5, y6⟩
    · intro x k a2 i hx hk e1 e2
      have e1' : va_up (R 6) rn (some b.1) x = some a2 := e1
      by_cases ex : x = rn
      · subst ex
        rw [va_up_self] at e1'
        obtain rfl := Option.some.inj e1'
        rcases f k hk with ⟨q, _⟩ | ⟨a3, q1, _, _, q4, _⟩
        · rw [show va_up R 6 (va_up (R 6) x (some b.1)) 7 k = R 7 k from rfl, q] at e2
          exact nomatch e2
        · rw [show va_up R 6 (va_up (R 6) x (some b.1)) 7 k = R 7 k from rfl, q1] at e2
          obtain rfl := Option.some.inj e2
          exact Or.inr q4
      · rw [up_ne _ _ ex] at e1'
        exact g3 x k a2 i (by omega) hk e1' e2
    · intro k k' i i' hk hk' hkk e1 e2
      exact g4 k k' i i' hk hk' hkk e1 e2
    · refine ⟨fun k hk => ?_, ?_, ?_⟩
      · rw [bl _ (by omega), bl _ (by omega)]
        exact r.1 k hk
      · show b'.1 = 69 + 3 * (rn + 1) + 12 * imN R
        omega
      · show b'.2.1 ≤ 16000 + 426 * (rn + 1) + 168 * imN R
        have := r.2.2
        omega
end NU2
