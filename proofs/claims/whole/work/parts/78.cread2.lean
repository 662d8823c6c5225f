/-! THE GRAMMAR: a RULE; the class: read. -/
section DD
variable {m0 : xM} {F I : Nat → Nat → Int32} {L : Nat → Nat → Int64} {R : Nat → Nat → Option Nat} {H : Value} {s w : Nat → Int32} {o : Nat} {gg : Prop}
abbrev gQ : Type := Nat ⊕ (gS × List xCl4)
def gBq (x : gR) (f : gS → gQ) : gQ := match x with
  | .inl e => .inl e
  | .inr s => f s
def gEd (T : Nat → Int32) (n : Nat) (rd : gS → List xCl4 → gQ) (b : gS) (cl : List xCl4) : gQ := if sgE T n b.1 59 then rd (gAd T n b) cl else if kdE T n b.1 = 0 then .inr (b, cl) else .inl (1 + 8 * b.1 + 0)
def gRd (T : Nat → Int32) (n : Nat) : Nat → gS → List xCl4 → gQ
  | 0, _, _ => .inl 0
  | f + 1, s, cl => if wix T s.1 (leE T n s.1) ws1 0 < 0 then .inl (1 + 8 * s.1 + 0) else if cl.length = 12 then .inl (1 + 8 * s.1 + 4) else gBq (gSu T n (gAd T n s)) (fun a => if wix T a.1 (leE T n a.1) ws3 0 = 0 then gBq (gTs T n (gFa T n 10) (gAd T n a)) (fun b => gEd T n (gRd T n f) b (cl ++ [(s.2.2.length, a.2.2.length, some a.2.2.length, b.2.2.length)])) else gEd T n (gRd T n f) a (cl ++ [(s.2.2.length, a.2.2.length, none, a.2.2.length)]))
def ERd (I : Nat → Nat → Int32) (cl : List xCl4) : Prop := ∀ c q, cl[c]? = some q → I 5 (2 * c) = nI q.2.1 ∧ I 5 (2 * c + 1) = nI q.2.2.2
def cF2 (F I F1 I1 : Nat → Nat → Int32) : Prop := (∀ k, k ≠ 1 → k ≠ 3 → F1 k = F k) ∧ (∀ k, k ≠ 4 → k ≠ 5 → I1 k = I k)
theorem cF2.trans {F I F1 I1 F2 I2 : Nat → Nat → Int32} (h : cF2 F I F1 I1) (g : cF2 F1 I1 F2 I2) : cF2 F I F2 I2 := ⟨fun k a b => (g.1 k a b).trans (h.1 k a b), fun k a b => (g.2 k a b).trans (h.2 k a b)⟩
theorem cFI.two {F I F1 I1 : Nat → Nat → Int32} (h : cFI F I F1 I1) : cF2 F I F1 I1 := ⟨h.1, fun k a _ => h.2.1 k a⟩
def gO3 (F1 I1 : Nat → Nat → Int32) (T : Nat → Int32) (n : Nat) (r : Option Value) : gQ → Prop
  | .inl e => r = some (.int 0) ∧ F1 1 2 = nI e
  | .inr z => r = some (.int 1) ∧ RS F1 I1 T n z.1 ∧ ERd I1 z.2 ∧ F1 3 3 = nI z.2.length
def gO2 (m0 : xM) (F I : Nat → Nat → Int32) (L : Nat → Nat → Int64) (R : Nat → Nat → Option Nat) (H : Value) (T : Nat → Int32) (n : Nat) (x : gQ) (r : Option Value) (m2 : xM) : Prop := ∃ F1 I1, m2 = CC m0 F1 I1 L R H ∧ cF2 F I F1 I1 ∧ gO3 F1 I1 T n r x
section RX
variable {T : Nat → Int32} {n d : Nat} {t b : gS}
theorem gO2.mono {F1 I1 : Nat → Nat → Int32} {x : gQ} {r : Option Value} {m2 : xM} (h : gO2 m0 F1 I1 L R H T n x r m2) (hc : cF2 F I F1 I1) : gO2 m0 F I L R H T n x r m2 := by
  obtain ⟨F2, I2, e, c, g⟩ := h
  exact ⟨F2, I2, e, hc.trans c, g⟩
theorem ERd.add {cl : List xCl4} {q : xCl4} {I1 : Nat → Nat → Int32} (h : ERd I cl) (hk : ∀ k, k < 2 * cl.length → I1 5 k = I 5 k) (h1 : I1 5 (2 * cl.length) = nI q.2.1) (h2 : I1 5 (2 * cl.length + 1) = nI q.2.2.2) : ERd I1 (cl ++ [q]) := fun c z hz => by
  by_cases hc : c < cl.length
  · rw [List.getElem?_append_left hc] at hz
    rw [hk (2 * c) (by omega), hk (2 * c + 1) (by omega)]
    exact h c z hz
  · have hl : c < (cl ++ [q]).length := (List.getElem?_eq_some_iff.mp hz).1
    rw [List.length_append, List.length_singleton] at hl
    obtain rfl : c = cl.length := by omega
    rw [List.getElem?_append_right (Nat.le_refl _), Nat.sub_self] at hz
    obtain rfl := Option.some.inj hz
    exact ⟨h1, h2⟩
theorem l_R99 {cl : List xCl4} {q : xCl4} {rd : gS → List xCl4 → gQ} (hd : 8 ≤ d) (h : RS F I T n b) (hER : ERd I cl) (h5 : I 5 (2 * cl.length) = nI q.2.1) (hq : q.2.2.2 = b.2.2.length) (hc : cl.length < 12) (kk : ∀ F1 I1, RS F1 I1 T n (gAd T n b) → ERd I1 (cl ++ [q]) → cF2 F I F1 I1 → Rn d j_RuleReader_read 16 [.ref 3, .ref 1, .int (nI (cl.length + 1))] [] (CC m0 F1 I1 L R H) (gO2 m0 F1 I1 L R H T n (rd (gAd T n b) (cl ++ [q])))) : Rn d j_RuleReader_read 99 [.ref 3, .ref 1, .int (nI cl.length)] [] (CC m0 F I L R H) (gO2 m0 F I L R H T n (gEd T n rd b (cl ++ [q]))) := by
  have hl : (cl ++ [q]).length = cl.length + 1 := by rw [List.length_append]; rfl
  have h32 : F 3 2 = nI b.2.2.length := h.2.2.2.2.2.1
  have hkb : kdE T n b.1 < 4 := by
    unfold kdE
    repeat' split
    all_goals omega
  have hER2 : ERd (va_up I 5 (upd (I 5) (2 * cl.length + 1) (nI b.2.2.length))) (cl ++ [q]) := hER.add (fun k hk => if_neg (show ¬ k = 2 * cl.length + 1 by omega)) ((if_neg (show ¬ 2 * cl.length = 2 * cl.length + 1 by omega)).trans h5) (by rw [hq]; exact if_pos rfl)
  refine Rn.step (pc' := 100) rfl rfl ?_
  refine Rn.getf (pc' := 103) rfl rfl rfl rfl rfl ?_
  refine Rn.iconst (v := 2) (pc' := 104) rfl (by decide) rfl ?_
  refine Rn.step (pc' := 105) rfl rfl ?_
  refine Rn.imul (pc' := 106) rfl rfl ?_
  refine Rn.iconst (v := 1) (pc' := 107) rfl (by decide) rfl ?_
  refine Rn.iadd (pc' := 108) rfl rfl ?_
  refine Rn.step (pc' := 109) rfl rfl ?_
  refine Rn.getf (pc' := 112) rfl rfl rfl rfl rfl ?_
  rw [h32]
  refine Rn.cast (k := 2 * cl.length + 1) (pc' := 113) rfl rfl (by simp only [nI_lit, nI_add, pk_mul, Nat.zero_add]) (by omega) (by decide) rfl ?_
  refine Rn.step (pc' := 114) rfl rfl ?_
  refine Rn.step (pc' := 115) rfl rfl ?_
  refine Rn.iconst (v := 1) (pc' := 116) rfl (by decide) rfl ?_
  refine Rn.iadd (pc' := 117) rfl rfl ?_
  rw [show nI cl.length + 1 = nI (cl.length + 1) from nI_add _ 1]
  refine Rn.cput (pc' := 120) rfl rfl rfl rfl rfl (by decide) rfl ?_
  have h2 : RS (va_up F 3 (upd (F 3) 3 (nI (cl.length + 1)))) (va_up I 5 (upd (I 5) (2 * cl.length + 1) (nI b.2.2.length))) T n b := h
  have c2 : cF2 F I (va_up F 3 (upd (F 3) 3 (nI (cl.length + 1)))) (va_up I 5 (upd (I 5) (2 * cl.length + 1) (nI b.2.2.length))) := ⟨fun k _ b => up_ne _ _ b, fun k _ b => up_ne _ _ b⟩
  refine Rn.step (pc' := 121) rfl rfl ?_
  refine Rn.iconst (v := 59) (pc' := 123) rfl (by decide) rfl ?_
  refine Rn.vi (pc' := 126) rfl (by decide) (by omega) rfl rfl rfl (r_sign 59 h2) ?_
  refine Rn.ifp_ne (pc1 := 150) (pc2 := 129) rfl rfl rfl (fun h126 => ?_) (fun h126 => ?_)
  · refine Rn.step (pc' := 151) rfl rfl ?_
    refine Rn.callV (pc' := 154) rfl (by decide) (by omega) rfl rfl rfl (r_next (by omega) h2) (fun r_ m_ hc_ => ?_)
    obtain ⟨rfl, f1, rfl, h3⟩ := hc_
    refine Rn.step (pc' := 157) rfl rfl ?_
    refine Rn.step (pc' := 16) rfl rfl ?_
    rw [show gEd T n rd b (cl ++ [q]) = rd (gAd T n b) (cl ++ [q]) from if_pos h126]
    refine Rn.ls3 rfl rfl (congrArg Value.int (nI_i1 cl.length)) ?_
    have c3 : cF2 F I (va_up (va_up F 3 (upd (F 3) 3 (nI (cl.length + 1)))) 1 f1) (va_up I 5 (upd (I 5) (2 * cl.length + 1) (nI b.2.2.length))) := c2.trans ⟨fun k a _ => up_ne _ _ a, fun _ _ _ => rfl⟩
    exact Rn.conseq (kk _ _ h3 hER2 c3) (fun r m hg => hg.mono c3)
  · refine Rn.step (pc' := 130) rfl rfl ?_
    refine Rn.getf (pc' := 133) rfl rfl rfl rfl rfl ?_
    refine Rn.ifc_eq (pc1 := 144) (pc2 := 136) rfl rfl rfl (fun h133 => ?_) (fun h133 => ?_)
    · refine Rn.iconst (v := 1) (pc' := 145) rfl (by decide) rfl ?_
      refine Rn.step (pc' := 149) rfl rfl ?_
      exact Rn.iret rfl (rfl) (by unfold gEd; rw [if_neg h126, if_pos ((nI_eq (a := kdE T n b.1) (b := 0) (by omega) (by omega)).mp (h.2.1.2.1.symm.trans h133))]; exact ⟨_, _, rfl, c2, rfl, h2, hER2, by rw [hl]; rfl⟩)
    · refine Rn.step (pc' := 137) rfl rfl ?_
      refine Rn.iconst (v := 0) (pc' := 138) rfl (by decide) rfl ?_
      refine Rn.vi (pc' := 141) rfl (by decide) (by omega) rfl rfl rfl (r_fail 0 h2) ?_
      refine Rn.ifc_eq (pc1 := 148) (pc2 := 144) rfl rfl rfl (fun h141 => ?_) (fun h141 => absurd (rfl) h141)
      refine Rn.iconst (v := 0) (pc' := 149) rfl (by decide) rfl ?_
      exact Rn.iret rfl (rfl) (by unfold gEd; rw [if_neg h126, if_neg (fun z => h133 (h.2.1.2.1.trans (by rw [z]; rfl)))]; exact ⟨_, _, rfl, c2.trans ⟨fun k a _ => up_ne _ _ a, fun _ _ _ => rfl⟩, rfl, rfl⟩)
theorem nx_gtA {T : Nat → Int32} {n p : Nat} (hp : p ≤ n) : p ≤ nxE T n p := by
  have h1 : p ≤ tkE T n p := by
    unfold tkE
    repeat' split
    · exact Nat.le_refl _
    · exact rnE_ge
    · exact rnE_ge
    · omega
    · omega
  exact Nat.le_trans h1 rnE_ge
set_option maxHeartbeats 4000000 in
theorem l_K_read (hd : 44 ≤ d) (hS : STR0 m0) : ∀ (f : Nat) (F I : Nat → Nat → Int32) (t : gS) (cl : List xCl4), RS F I T n t → t.2.2.length ≤ t.1 → cl.length + f = 13 → cl.length ≤ 12 → ERd I cl → Rn d j_RuleReader_read 16 [.ref 3, .ref 1, .int (nI cl.length)] [] (CC m0 F I L R H) (gO2 m0 F I L R H T n (gRd T n f t cl))
  | 0, _, _, _, _, _, _, hf, hc, _ => absurd hf (by omega)
  | f + 1, F, I, t, cl, h, hb, hf, hc, hE => by
    have hT := h.2.2.2.2.1
    refine Rn.step (pc' := 17) rfl rfl ?_
    refine Rn.iconst (v := 12) (pc' := 19) rfl (by decide) rfl ?_
    refine Rn.icmp_gt (pc1 := 160) (pc2 := 22) rfl rfl rfl (fun h19 => absurd h19 (fun z => absurd ((nI_ltI (a := 12) (b := cl.length) (by omega) (by omega)).mp z) (by omega))) (fun h19 => ?_)
    refine Rn.step (pc' := 23) rfl rfl ?_
    refine Rn.step (pc' := 25) rfl rfl ?_
    refine Rn.vi (pc' := 28) rfl (by decide) (by omega) rfl rfl rfl (r_w1 (by omega) hS h) ?_
    refine Rn.ifc_ge (pc1 := 37) (pc2 := 31) rfl rfl rfl (fun h28 => ?_) (fun h28 => ?_)
    · have hw : ¬ wix T t.1 (leE T n t.1) ws1 0 < 0 := Int32.not_lt.mpr h28
      refine Rn.step (pc' := 38) rfl rfl ?_
      refine Rn.iconst (v := 12) (pc' := 40) rfl (by decide) rfl ?_
      refine Rn.icmp_ne (pc1 := 49) (pc2 := 43) rfl rfl rfl (fun h40 => ?_) (fun h40 => ?_)
      · have hc12 : ¬ cl.length = 12 := fun z => h40 (by rw [z]; rfl)
        rw [show gRd T n (f + 1) t cl = _ from (if_neg hw).trans (if_neg hc12)]
        have k0 : ¬ kdE T n t.1 = 0 := wx_kd hT ws1 (by decide) (fun z => hw (by rw [z]; decide))
        have hx := nx_gt hT h.2.2.1 k0
        have hx2 := nx_le (T := T) h.2.2.1
        have q1 : (gAd T n t).1 = nxE T n t.1 := rfl
        have q2 : (gAd T n t).2.2.length = t.2.2.length := rfl
        refine Rn.step (pc' := 50) rfl rfl ?_
        refine Rn.callV (pc' := 53) rfl (by decide) (by omega) rfl rfl rfl (r_next (by omega) h) (fun r_ m_ hc_ => ?_)
        obtain ⟨rfl, f1, rfl, h2⟩ := hc_
        refine Rn.step (pc' := 54) rfl rfl ?_
        refine Rn.step (pc' := 55) rfl rfl ?_
        refine Rn.callV (pc' := 58) rfl (by decide) (by omega) rfl rfl rfl (r_sum (by omega) hS h2 (by omega)) (fun r_ m_ hc_ => ?_)
        obtain ⟨F2, I2, rfl, c2, g2⟩ := hc_
        cases ev : gSu T n (gAd T n t) with
        | inl e9 =>
          rw [ev] at g2
          obtain ⟨rfl, g3⟩ := g2
          refine Rn.ifc_ne (pc1 := 63) (pc2 := 61) rfl rfl rfl (fun h58 => absurd h58 (fun z => z rfl)) (fun h58 => ?_)
          refine Rn.iconst (v := 0) (pc' := 62) rfl (by decide) rfl ?_
          exact Rn.iret rfl (rfl) (⟨F2, I2, rfl, (((cFI.rfl F I).f1 f1).trans c2).two, rfl, g3⟩)
        | inr a =>
          rw [ev] at g2
          obtain ⟨rfl, h3⟩ := g2
          have bz := gSu_b hT (show (gAd T n t).1 ≤ n from hx2) ev
          have a_le : a.2.2.length ≤ a.1 := by omega
          have h32 : F2 3 2 = nI a.2.2.length := h3.2.2.2.2.2.1
          have i5 : I2 5 = I 5 := c2.2.1 5 (by decide)
          have hE2 : ERd I2 cl := fun c q hq => by rw [i5]; exact hE c q hq
          show Rn _ _ _ _ _ _ (gO2 m0 F I L R H T n (if wix T a.1 (leE T n a.1) ws3 0 = 0 then gBq (gTs T n (gFa T n 10) (gAd T n a)) (fun b => gEd T n (gRd T n f) b (cl ++ [(t.2.2.length, a.2.2.length, some a.2.2.length, b.2.2.length)])) else gEd T n (gRd T n f) a (cl ++ [(t.2.2.length, a.2.2.length, none, a.2.2.length)])))
          refine Rn.ifc_ne (pc1 := 63) (pc2 := 61) rfl rfl rfl (fun h58 => ?_) (fun h58 => absurd h58 (by decide))
          refine Rn.step (pc' := 64) rfl rfl ?_
          refine Rn.getf (pc' := 67) rfl rfl rfl rfl rfl ?_
          refine Rn.iconst (v := 2) (pc' := 68) rfl (by decide) rfl ?_
          refine Rn.step (pc' := 69) rfl rfl ?_
          refine Rn.imul (pc' := 70) rfl rfl ?_
          refine Rn.step (pc' := 71) rfl rfl ?_
          refine Rn.getf (pc' := 74) rfl rfl rfl rfl rfl ?_
          rw [h32]
          refine Rn.cast (k := 2 * cl.length) (pc' := 75) rfl rfl (by simp only [nI_lit, nI_add, pk_mul, Nat.zero_add]) (by omega) (by decide) rfl ?_
          have h4 : RS F2 (va_up I2 5 (upd (I2 5) (2 * cl.length) (nI a.2.2.length))) T n a := h3
          have cA : cF2 F I F2 (va_up I2 5 (upd (I2 5) (2 * cl.length) (nI a.2.2.length))) := ((((cFI.rfl F I).f1 f1).trans c2).two).trans ⟨fun _ _ _ => rfl, fun k _ b => up_ne _ _ b⟩
          refine Rn.step (pc' := 76) rfl rfl ?_
          refine Rn.step (pc' := 78) rfl rfl ?_
          refine Rn.vi (pc' := 81) rfl (by decide) (by omega) rfl rfl rfl (r_w3 (by omega) hS h4) ?_
          refine Rn.ifc_ne (pc1 := 99) (pc2 := 84) rfl rfl rfl (fun h81 => ?_) (fun h81 => ?_)
          · rw [if_neg h81]
            have hE4 : ERd (va_up I2 5 (upd (I2 5) (2 * cl.length) (nI a.2.2.length))) cl := fun c q hq => by
              have hc2 := (List.getElem?_eq_some_iff.mp hq).1
              exact ⟨(if_neg (show ¬ 2 * c = 2 * cl.length by omega)).trans (hE2 c q hq).1, (if_neg (show ¬ 2 * c + 1 = 2 * cl.length by omega)).trans (hE2 c q hq).2⟩
            refine Rn.conseq (l_R99 (rd := gRd T n f) (cl := cl) (q := (t.2.2.length, a.2.2.length, none, a.2.2.length)) (by omega) h4 hE4 (show upd (I2 5) (2 * cl.length) (nI a.2.2.length) (2 * cl.length) = nI a.2.2.length from if_pos rfl) rfl (by omega) (fun F9 I9 a9 b9 c9 => ?_)) (fun r m hg => hg.mono cA)
            have hx9 := nx_gtA (T := T) (n := n) (p := a.1) h4.2.2.1
            have := l_K_read hd hS f F9 I9 (gAd T n a) _ a9 (Nat.le_trans a_le hx9) (by rw [List.length_append, List.length_singleton]; omega) (by rw [List.length_append, List.length_singleton]; omega) b9
            rw [List.length_append, List.length_singleton] at this
            exact this
          · rw [if_pos h81]
            have k3 : ¬ kdE T n a.1 = 0 := wx_kd hT ws3 (by decide) (fun z => by rw [h81] at z; exact absurd z (by decide))
            have hx3 := nx_gt hT bz.2.1 k3
            have q3 : (gAd T n a).1 = nxE T n a.1 := rfl
            have q4 : (gAd T n a).2.2.length = a.2.2.length := rfl
            refine Rn.step (pc' := 85) rfl rfl ?_
            refine Rn.callV (pc' := 88) rfl (by decide) (by omega) rfl rfl rfl (r_next (by omega) h4) (fun r_ m_ hc_ => ?_)
            obtain ⟨rfl, f2, rfl, h5⟩ := hc_
            refine Rn.step (pc' := 89) rfl rfl ?_
            refine Rn.step (pc' := 90) rfl rfl ?_
            refine Rn.iconst (v := 0) (pc' := 91) rfl (by decide) rfl ?_
            refine Rn.callV (pc' := 94) rfl (by decide) (by omega) rfl rfl rfl (r_test (D := nI 0) (fa := gFa T n 10) (by omega) hS (fun F I t a b => r_fact hS 10 _ 0 F I t rfl (by omega) a b) (gFa_b hT 10) h5 (by omega)) (fun r_ m_ hc_ => ?_)
            obtain ⟨F4, I4, rfl, c4, g4⟩ := hc_
            cases ev2 : gTs T n (gFa T n 10) (gAd T n a) with
            | inl e9 =>
              rw [ev2] at g4
              obtain ⟨rfl, g5⟩ := g4
              refine Rn.ifc_ne (pc1 := 99) (pc2 := 97) rfl rfl rfl (fun h94 => absurd h94 (fun z => z rfl)) (fun h94 => ?_)
              refine Rn.iconst (v := 0) (pc' := 98) rfl (by decide) rfl ?_
              exact Rn.iret rfl (rfl) (⟨F4, I4, rfl, cA.trans (((cFI.rfl _ _).f1 f2).trans c4).two, rfl, g5⟩)
            | inr b =>
              rw [ev2] at g4
              obtain ⟨rfl, h6⟩ := g4
              have bz2 := gTs_b hT (gFa_b hT 10) (show (gAd T n a).1 ≤ n from nx_le bz.2.1) ev2
              unfold gB at bz2
              have b_le : b.2.2.length ≤ b.1 := by omega
              have e55 : I4 5 = upd (I2 5) (2 * cl.length) (nI a.2.2.length) := c4.2.1 5 (by decide)
              have hE4 : ERd I4 cl := fun c q hq => by
                have hc2 := (List.getElem?_eq_some_iff.mp hq).1
                rw [e55]
                exact ⟨(if_neg (show ¬ 2 * c = 2 * cl.length by omega)).trans (hE2 c q hq).1, (if_neg (show ¬ 2 * c + 1 = 2 * cl.length by omega)).trans (hE2 c q hq).2⟩
              show Rn _ _ _ _ _ _ (gO2 m0 F I L R H T n (gEd T n (gRd T n f) b _))
              refine Rn.ifc_ne (pc1 := 99) (pc2 := 97) rfl rfl rfl (fun h94 => ?_) (fun h94 => absurd h94 (by decide))
              refine Rn.conseq (l_R99 (rd := gRd T n f) (cl := cl) (q := (t.2.2.length, a.2.2.length, some a.2.2.length, b.2.2.length)) (by omega) h6 hE4 (by rw [e55]; exact if_pos rfl) rfl (by omega) (fun F9 I9 a9 b9 c9 => ?_)) (fun r m hg => hg.mono (cA.trans (((cFI.rfl _ _).f1 f2).trans c4).two))
              have hx9 := nx_gtA (T := T) (n := n) (p := b.1) h6.2.2.1
              have := l_K_read hd hS f F9 I9 (gAd T n b) _ a9 (Nat.le_trans b_le hx9) (by rw [List.length_append, List.length_singleton]; omega) (by rw [List.length_append, List.length_singleton]; omega) b9
              rw [List.length_append, List.length_singleton] at this
              exact this
      · refine Rn.step (pc' := 44) rfl rfl ?_
        refine Rn.iconst (v := 4) (pc' := 45) rfl (by decide) rfl ?_
        refine Rn.vi (pc' := 48) rfl (by decide) (by omega) rfl rfl rfl (r_fail 4 h) ?_
        exact Rn.iret rfl (rfl) (by rw [show gRd T n (f + 1) t cl = _ from (if_neg hw).trans (if_pos ((nI_eq (a := cl.length) (b := 12) (by omega) (by omega)).mp h40))]; exact ⟨_, _, rfl, ((cFI.rfl F I).f1 _).two, rfl, rfl⟩)
    · refine Rn.step (pc' := 32) rfl rfl ?_
      refine Rn.iconst (v := 0) (pc' := 33) rfl (by decide) rfl ?_
      refine Rn.vi (pc' := 36) rfl (by decide) (by omega) rfl rfl rfl (r_fail 0 h) ?_
      exact Rn.iret rfl (rfl) (by rw [show gRd T n (f + 1) t cl = _ from if_pos (Int32.not_le.mp h28)]; exact ⟨_, _, rfl, ((cFI.rfl F I).f1 _).two, rfl, rfl⟩)
end RX
end DD
