/-! THE MODEL: its reader: clauses. -/
section NB2
variable {m0 : xM} {v : Nat → Int32} {dx : Int64} {A : Nat → Nat → Int32} {LA : Nat → Nat → Int64} {s : Nat → Int32}
section U1
variable {T : Nat → Int32} {n r : Nat} {t b : gS} {cl : List xCl4}
def ECl (A : Nat → Nat → Int32) (r : Nat) (cl : List xCl4) : Prop := ∀ c q, cl[c]? = some q → A 54 (48 * r + 4 * c) = nI q.1 ∧ A 54 (48 * r + 4 * c + 1) = nI q.2.1 ∧ A 54 (48 * r + 4 * c + 2) = eO q.2.2.1 ∧ A 54 (48 * r + 4 * c + 3) = nI q.2.2.2
def xFD (v : Nat → Int32) (A : Nat → Nat → Int32) (v1 : Nat → Int32) (A1 : Nat → Nat → Int32) (r : Nat) : Prop := (∀ k, k ≠ 1 → k ≠ 8 → k ≠ 9 → k ≠ 10 → k ≠ 12 → k ≠ 13 → k ≠ 14 → k ≠ 16 → v1 k = v k) ∧ (∀ k, k ≠ 52 → k ≠ 53 → k ≠ 54 → k ≠ 55 → k ≠ 57 → A1 k = A k) ∧ (∀ k, k < 400 * r → A1 52 k = A 52 k) ∧ (∀ k, k ≠ r → A1 53 k = A 53 k) ∧ (∀ k, k < 48 * r → A1 54 k = A 54 k) ∧ ∀ k, k ≠ r → A1 55 k = A 55 k
theorem xFD.rfl (v : Nat → Int32) (A : Nat → Nat → Int32) (r : Nat) : xFD v A v A r := ⟨fun _ _ _ _ _ _ _ _ _ => Eq.refl _, fun _ _ _ _ _ _ => Eq.refl _, fun _ _ => Eq.refl _, fun _ _ => Eq.refl _, fun _ _ => Eq.refl _, fun _ _ => Eq.refl _⟩
theorem xFD.trans {v1 v2 : Nat → Int32} {A1 A2 : Nat → Nat → Int32} (h : xFD v A v1 A1 r) (g : xFD v1 A1 v2 A2 r) : xFD v A v2 A2 r := ⟨fun k a b c d e f x y => (g.1 k a b c d e f x y).trans (h.1 k a b c d e f x y), fun k a b c d e => (g.2.1 k a b c d e).trans (h.2.1 k a b c d e), fun k a => (g.2.2.1 k a).trans (h.2.2.1 k a), fun k a => (g.2.2.2.1 k a).trans (h.2.2.2.1 k a), fun k a => (g.2.2.2.2.1 k a).trans (h.2.2.2.2.1 k a), fun k a => (g.2.2.2.2.2 k a).trans (h.2.2.2.2.2 k a)⟩
theorem xFB.four {v1 : Nat → Int32} {A1 : Nat → Nat → Int32} (h : xFB v A v1 A1 r) : xFD v A v1 A1 r := ⟨fun k _ b c d e f _ y => h.1 k b c d e f y, fun k a b _ _ e => h.2.1 k a b e, h.2.2.1, h.2.2.2, fun k _ => by rw [h.2.1 54 (by decide) (by decide) (by decide)], fun k _ => by rw [h.2.1 55 (by decide) (by decide) (by decide)]⟩
theorem xFD.vv {v1 : Nat → Int32} {A1 : Nat → Nat → Int32} {k : Nat} {x : Int32} (h : xFD v A v1 A1 r) (hk : k = 1 ∨ k = 8 ∨ k = 9 ∨ k = 10 ∨ k = 12 ∨ k = 13 ∨ k = 14 ∨ k = 16) : xFD v A (upd v1 k x) A1 r := ⟨fun j a b c d e f u w => (if_neg (show ¬ j = k by omega)).trans (h.1 j a b c d e f u w), h.2⟩
theorem xFD.ccl {v1 : Nat → Int32} {A1 : Nat → Nat → Int32} {k : Nat} {x : Int32} (h : xFD v A v1 A1 r) (hk : 48 * r ≤ k) : xFD v A v1 (va_up A1 54 (upd (A1 54) k x)) r := ⟨h.1, fun j a b c d e => (up_ne _ _ c).trans (h.2.1 j a b c d e), h.2.2.1, h.2.2.2.1, fun j hj => (if_neg (show ¬ j = k by omega)).trans (h.2.2.2.2.1 j hj), h.2.2.2.2.2⟩
theorem xFD.cn {v1 : Nat → Int32} {A1 : Nat → Nat → Int32} {x : Int32} (h : xFD v A v1 A1 r) : xFD v A v1 (va_up A1 55 (upd (A1 55) r x)) r := ⟨h.1, fun j a b c d e => (up_ne _ _ d).trans (h.2.1 j a b c d e), h.2.2.1, h.2.2.2.1, h.2.2.2.2.1, fun j hj => (if_neg hj).trans (h.2.2.2.2.2 j hj)⟩
theorem RM.ccl {f : Nat → Int32} (h : RM v A T n r t) : RM v (va_up A 54 f) T n r t := h
theorem RM.cn {f : Nat → Int32} (h : RM v A T n r t) : RM v (va_up A 55 f) T n r t := h
theorem ECl.add {q : xCl4} {A1 : Nat → Nat → Int32} (h : ECl A r cl) (hk : ∀ k, k < 48 * r + 4 * cl.length → A1 54 k = A 54 k) (h0 : A1 54 (48 * r + 4 * cl.length) = nI q.1) (h1 : A1 54 (48 * r + 4 * cl.length + 1) = nI q.2.1) (h2 : A1 54 (48 * r + 4 * cl.length + 2) = eO q.2.2.1) (h3 : A1 54 (48 * r + 4 * cl.length + 3) = nI q.2.2.2) : ECl A1 r (cl ++ [q]) := fun c z hz => by
  by_cases hc : c < cl.length
  · rw [List.getElem?_append_left hc] at hz
    rw [hk _ (by omega), hk _ (by omega), hk _ (by omega), hk _ (by omega)]
    exact h c z hz
  · have hl : c < (cl ++ [q]).length := (List.getElem?_eq_some_iff.mp hz).1
    rw [List.length_append, List.length_singleton] at hl
    obtain rfl : c = cl.length := by omega
    rw [List.getElem?_append_right (Nat.le_refl _), Nat.sub_self] at hz
    obtain rfl := Option.some.inj hz
    exact ⟨h0, h1, h2, h3⟩
def gPK (v1 : Nat → Int32) (A1 : Nat → Nat → Int32) (T : Nat → Int32) (n r : Nat) (o : Option Value) : gQ → Prop
  | .inl e => o = some (.int 0) ∧ badE v1 e
  | .inr z => o = some (.int 1) ∧ RM v1 A1 T n r z.1 ∧ A1 55 r = nI z.2.length ∧ ECl A1 r z.2
def gP (m0 : xM) (v : Nat → Int32) (dx : Int64) (A : Nat → Nat → Int32) (LA : Nat → Nat → Int64) (T : Nat → Int32) (n r : Nat) (y : Int32) (x : gQ) (o : Option Value) (m2 : xM) : Prop := ∃ v1 A1, m2 = MM m0 v1 dx A1 LA ∧ xFD v A v1 A1 r ∧ v1 14 = y ∧ gPK v1 A1 T n r o x
def gW (T : Nat → Int32) (n : Nat) (s : gS) (cl : List xCl4) : gQ := gBq (gSu T n (gAd T n s)) (fun a => if wix T a.1 (leE T n a.1) ws3 0 = 0 then gBq (gTs T n (gFa T n 10) (gAd T n a)) (fun b => .inr (b, cl ++ [(s.2.2.length, a.2.2.length, some a.2.2.length, b.2.2.length)])) else .inr (a, cl ++ [(s.2.2.length, a.2.2.length, none, a.2.2.length)]))
def gCl (T : Nat → Int32) (n : Nat) (s : gS) (cl : List xCl4) : gQ := if wix T s.1 (leE T n s.1) ws1 0 < 0 then .inl (1 + 8 * s.1 + 0) else if cl.length = 12 then .inl (1 + 8 * s.1 + 4) else gW T n s cl
def gQb (x : gQ) (f : gS × List xCl4 → gQ) : gQ := match x with
  | .inl e => .inl e
  | .inr z => f z
theorem gRd_c (f : Nat) (s : gS) (cl : List xCl4) : gRd T n (f + 1) s cl = gQb (gCl T n s cl) (fun z => gEd T n (gRd T n f) z.1 z.2) := by
  unfold gCl
  rw [gRd]
  by_cases h1 : wix T s.1 (leE T n s.1) ws1 0 < 0
  · rw [if_pos h1, if_pos h1]
    rfl
  · rw [if_neg h1, if_neg h1]
    by_cases h2 : cl.length = 12
    · rw [if_pos h2, if_pos h2]
      rfl
    · rw [if_neg h2, if_neg h2]
      unfold gW
      cases gSu T n (gAd T n s) with
      | inl e => rfl
      | inr a =>
        show (if _ then _ else _) = gQb (if _ then _ else _) _
        by_cases h3 : wix T a.1 (leE T n a.1) ws3 0 = 0
        · rw [if_pos h3, if_pos h3]
          cases gTs T n (gFa T n 10) (gAd T n a) with
          | inl e => rfl
          | inr b => rfl
        · rw [if_neg h3, if_neg h3]
          rfl
theorem if_w {p : Nat} : wdP T p (leE T n p) [105, 102] ↔ wix T p (leE T n p) ws3 0 = 0 := by
  show _ ↔ (if wdP T p (leE T n p) [105, 102] then nI 0 else -1) = 0
  by_cases h : wdP T p (leE T n p) [105, 102]
  · rw [if_pos h]
    exact ⟨fun _ => rfl, fun _ => h⟩
  · rw [if_neg h]
    exact ⟨fun z => absurd z h, fun z => absurd z (by decide)⟩
theorem walk_w {p : Nat} : wdP T p (leE T n p) [119, 97, 108, 107] ↔ ¬ wix T p (leE T n p) ws1 0 < 0 := by
  show _ ↔ ¬ (if wdP T p (leE T n p) [119, 97, 108, 107] then nI 0 else -1) < 0
  by_cases h : wdP T p (leE T n p) [119, 97, 108, 107]
  · rw [if_pos h]
    exact ⟨fun _ => by decide, fun _ => h⟩
  · rw [if_neg h]
    exact ⟨fun z => absurd z h, fun z => absurd (by decide) z⟩
theorem l_X_w110 {d : Nat} {q : xCl4} (h : RM v A T n r b) (h55 : A 55 r = nI cl.length) (hc : cl.length < 12) (hE : ECl A r cl) (e0 : A 54 (48 * r + 4 * cl.length) = nI q.1) (e1 : A 54 (48 * r + 4 * cl.length + 1) = nI q.2.1) (e2 : A 54 (48 * r + 4 * cl.length + 2) = eO q.2.2.1) (hq : q.2.2.2 = b.2.2.length) : Rn d j_M_isWalkHere 110 [.ref 50, .int (nI (48 * r + 4 * cl.length))] [] (MM m0 v dx A LA) (fun o m2 => o = some (.int 1) ∧ ∃ A1, m2 = MM m0 v dx A1 LA ∧ xFD v A v A1 r ∧ RM v A1 T n r b ∧ A1 55 r = nI (cl.length + 1) ∧ ECl A1 r (cl ++ [q])) := by
  have h6 := h.2.2.2.1
  refine Rn.step (pc' := 111) rfl rfl ?_
  refine Rn.getf (pc' := 114) rfl rfl rfl rfl rfl ?_
  refine Rn.step (pc' := 115) rfl rfl ?_
  refine Rn.iconst (v := 3) (pc' := 116) rfl (by decide) rfl ?_
  refine Rn.iadd (pc' := 117) rfl rfl ?_
  refine Rn.step (pc' := 118) rfl rfl ?_
  refine Rn.getf (pc' := 121) rfl rfl rfl rfl rfl ?_
  refine Rn.step (pc' := 122) rfl rfl ?_
  refine Rn.getf (pc' := 125) rfl rfl rfl rfl rfl ?_
  refine Rn.mald (k := r) (pc' := 126) rfl rfl (h.2.2.1) (by omega) (by decide) rfl ?_
  rw [show A 53 r = nI b.2.2.length from h.2.2.2.2.2.2.1]
  refine Rn.mast (k := 48 * r + 4 * cl.length + 3) (pc' := 127) rfl rfl (by simp only [nI_lit, nI_add, pk_mul]) (by omega) (by decide) rfl ?_
  refine Rn.step (pc' := 128) rfl rfl ?_
  refine Rn.getf (pc' := 131) rfl rfl rfl rfl rfl ?_
  refine Rn.step (pc' := 132) rfl rfl ?_
  refine Rn.getf (pc' := 135) rfl rfl rfl rfl rfl ?_
  refine Rn.step (pc' := 136) rfl rfl ?_
  refine Rn.mald (k := r) (pc' := 137) rfl rfl (h.2.2.1) (by omega) (by decide) rfl ?_
  refine Rn.iconst (v := 1) (pc' := 138) rfl (by decide) rfl ?_
  refine Rn.iadd (pc' := 139) rfl rfl ?_
  rw [show va_up A 54 (upd (A 54) (48 * r + 4 * cl.length + 3) (nI b.2.2.length)) 55 r + 1 = nI (cl.length + 1) by show A 55 r + 1 = _; rw [h55, nI_lit, nI_add]]
  refine Rn.mast (k := r) (pc' := 140) rfl rfl (h.2.2.1) (by omega) (by decide) rfl ?_
  refine Rn.iconst (v := 1) (pc' := 141) rfl (by decide) rfl ?_
  exact Rn.iret rfl (rfl) (⟨rfl, _, rfl, ((xFD.rfl v A r).ccl (by omega)).cn, h.ccl.cn, (if_pos rfl : upd (A 55) r (nI (cl.length + 1)) r = _), hE.add (q := q) (fun k hk => if_neg (show ¬ k = 48 * r + 4 * cl.length + 3 by omega)) ((if_neg (show ¬ 48 * r + 4 * cl.length = 48 * r + 4 * cl.length + 3 by omega)).trans e0) ((if_neg (show ¬ 48 * r + 4 * cl.length + 1 = 48 * r + 4 * cl.length + 3 by omega)).trans e1) ((if_neg (show ¬ 48 * r + 4 * cl.length + 2 = 48 * r + 4 * cl.length + 3 by omega)).trans e2) (by rw [hq]; exact if_pos rfl)⟩)
theorem x_walkHere {d : Nat} (hd : 9 ≤ d) (h : RM v A T n r t) (h8 : v 8 = nI t.1) (hk : wdP T t.1 (leE T n t.1) [119, 97, 108, 107]) (h55 : A 55 r = nI cl.length) (hc : cl.length < 12) (hE : ECl A r cl) (hl : t.2.2.length ≤ t.1) : Cl d j_M_isWalkHere [.ref 50] (MM m0 v dx A LA) (gP m0 v dx A LA T n r (v 14) (gW T n t cl)) := by
  have h4 := h.1.2.2.1
  have hp := h.1.le
  have h6 := h.2.2.2.1
  have hkd := wd_kd h.1.2.2.2.1 (by decide) hk
  have hx := nx_gt h.1.2.2.2.1 hp (show ¬ kdE T n t.1 = 0 by rw [hkd.1]; decide)
  show Rn d j_M_isWalkHere 0 _ _ _ _
  refine Rn.step (pc' := 1) rfl rfl ?_
  refine Rn.vv (pc' := 4) rfl (by decide) (by omega) rfl rfl rfl (x_M_pass (n := n) (i := t.1) (by exact h.1.2.1) h4 (by omega) h8 hp) ?_
  rw [h.1.1]
  have hR1 : RM (upd v 8 (nI (leE T n t.1))) A T n r (gAd T n t) := h.at (by exact rnE_le hp) (by show skE T n (leE T n t.1) = skE T n (tkE T n t.1); rw [hkd.2])
  refine Rn.iconst (v := 48) (pc' := 6) rfl (by decide) rfl ?_
  refine Rn.step (pc' := 7) rfl rfl ?_
  refine Rn.getf (pc' := 10) rfl rfl rfl rfl rfl ?_
  refine Rn.imul (pc' := 11) rfl rfl ?_
  refine Rn.iconst (v := 4) (pc' := 12) rfl (by decide) rfl ?_
  refine Rn.step (pc' := 13) rfl rfl ?_
  refine Rn.getf (pc' := 16) rfl rfl rfl rfl rfl ?_
  refine Rn.step (pc' := 17) rfl rfl ?_
  refine Rn.getf (pc' := 20) rfl rfl rfl rfl rfl ?_
  refine Rn.mald (k := r) (pc' := 21) rfl rfl (h.2.2.1) (by omega) (by decide) rfl ?_
  refine Rn.imul (pc' := 22) rfl rfl ?_
  refine Rn.iadd (pc' := 23) rfl rfl ?_
  rw [show (48 : Int32) * upd v 8 (nI (leE T n t.1)) 11 + 4 * A 55 r = nI (48 * r + 4 * cl.length) by show (48 : Int32) * v 11 + 4 * A 55 r = _; rw [h.2.2.1, h55]; simp only [nI_lit, nI_add, pk_mul]]
  refine Rn.step (pc' := 24) rfl rfl ?_
  refine Rn.step (pc' := 25) rfl rfl ?_
  refine Rn.getf (pc' := 28) rfl rfl rfl rfl rfl ?_
  refine Rn.step (pc' := 29) rfl rfl ?_
  refine Rn.step (pc' := 30) rfl rfl ?_
  refine Rn.getf (pc' := 33) rfl rfl rfl rfl rfl ?_
  refine Rn.step (pc' := 34) rfl rfl ?_
  refine Rn.getf (pc' := 37) rfl rfl rfl rfl rfl ?_
  refine Rn.mald (k := r) (pc' := 38) rfl rfl (h.2.2.1) (by omega) (by decide) rfl ?_
  rw [show A 53 r = nI t.2.2.length from h.2.2.2.2.2.2.1]
  refine Rn.mast (k := 48 * r + 4 * cl.length) (pc' := 39) rfl rfl (rfl) (by omega) (by decide) rfl ?_
  refine Rn.step (pc' := 40) rfl rfl ?_
  refine Rn.callV (pc' := 43) rfl (by decide) (by omega) rfl rfl rfl (x_sum (by omega) hR1.ccl (by show t.2.2.length ≤ nxE T n t.1; omega)) (fun r_ m_ hc_ => ?_)
  obtain ⟨v2, A2, rfl, hF2, hg⟩ := hc_
  have hFa := ((((xFD.rfl v A r).vv (k := 8) (x := nI (leE T n t.1)) (by omega)).ccl (k := 48 * r + 4 * cl.length) (x := nI t.2.2.length) (by omega))).trans hF2.two.four
  have hv14 : v2 14 = v 14 := hF2.1 14 (by decide) (by decide) (by decide) (by decide)
  unfold gW
  cases hV : gSu T n (gAd T n t) with
  | inl e =>
    rw [hV] at hg
    obtain ⟨rfl, h9⟩ := hg
    refine Rn.ifc_ne (pc1 := 48) (pc2 := 46) rfl rfl rfl (fun h36 => absurd rfl h36) (fun h36 => ?_)
    refine Rn.iconst (v := 0) (pc' := 47) rfl (by decide) rfl ?_
    refine Rn.iret rfl rfl ?_
    exact ⟨_, _, rfl, hFa, hv14, rfl, h9⟩
  | inr a =>
    rw [hV] at hg
    obtain ⟨rfl, hRa⟩ := hg
    have hba := gSu_b h.1.2.2.2.1 (show (gAd T n t).1 ≤ n from nx_le hp) hV
    have hq1 : (gAd T n t).1 = nxE T n t.1 := rfl
    have hq2 : (gAd T n t).2.2.length = t.2.2.length := rfl
    have e54 : A2 54 = upd (A 54) (48 * r + 4 * cl.length) (nI t.2.2.length) := hF2.2.1 54 (by decide) (by decide)
    have e55 : A2 55 = A 55 := hF2.2.1 55 (by decide) (by decide)
    show Rn _ _ _ _ _ _ (gP m0 v dx A LA T n r (v 14) (if wix T a.1 (leE T n a.1) ws3 0 = 0 then _ else _))
    refine Rn.ifc_ne (pc1 := 48) (pc2 := 46) rfl rfl rfl (fun h43 => ?_) (fun h43 => absurd h43 (fun z => absurd z (by decide)))
    refine Rn.step (pc' := 49) rfl rfl ?_
    refine Rn.getf (pc' := 52) rfl rfl rfl rfl rfl ?_
    refine Rn.step (pc' := 53) rfl rfl ?_
    refine Rn.iconst (v := 1) (pc' := 54) rfl (by decide) rfl ?_
    refine Rn.iadd (pc' := 55) rfl rfl ?_
    refine Rn.step (pc' := 56) rfl rfl ?_
    refine Rn.getf (pc' := 59) rfl rfl rfl rfl rfl ?_
    refine Rn.step (pc' := 60) rfl rfl ?_
    refine Rn.getf (pc' := 63) rfl rfl rfl rfl rfl ?_
    refine Rn.mald (k := r) (pc' := 64) rfl rfl (hRa.2.2.1) (by omega) (by decide) rfl ?_
    rw [show A2 53 r = nI a.2.2.length from hRa.2.2.2.2.2.2.1]
    refine Rn.mast (k := 48 * r + 4 * cl.length + 1) (pc' := 65) rfl rfl (by simp only [nI_lit, nI_add, pk_mul]) (by omega) (by decide) rfl ?_
    refine Rn.step (pc' := 66) rfl rfl ?_
    refine Rn.getf (pc' := 69) rfl rfl rfl rfl rfl ?_
    refine Rn.step (pc' := 70) rfl rfl ?_
    refine Rn.iconst (v := 2) (pc' := 71) rfl (by decide) rfl ?_
    refine Rn.iadd (pc' := 72) rfl rfl ?_
    refine Rn.iconst (v := (-1)) (pc' := 73) rfl (by decide) rfl ?_
    refine Rn.mast (k := 48 * r + 4 * cl.length + 2) (pc' := 74) rfl rfl (by simp only [nI_lit, nI_add, pk_mul]) (by omega) (by decide) rfl ?_
    have hx2 := nx_le (T := T) hba.2.1
    generalize hA3 : va_up (va_up A2 54 (upd (A2 54) (48 * r + 4 * cl.length + 1) (nI a.2.2.length))) 54 (upd (va_up A2 54 (upd (A2 54) (48 * r + 4 * cl.length + 1) (nI a.2.2.length)) 54) (48 * r + 4 * cl.length + 2) (-1)) = A3
    have hR3 : RM v2 A3 T n r a := by rw [← hA3]; exact hRa.ccl.ccl
    have hF3 : xFD v A v2 A3 r := by rw [← hA3]; exact (hFa.ccl (by omega)).ccl (by omega)
    have z0 : A3 54 (48 * r + 4 * cl.length) = nI t.2.2.length := by
      rw [← hA3]
      refine (if_neg (show ¬ 48 * r + 4 * cl.length = 48 * r + 4 * cl.length + 2 by omega)).trans ((if_neg (show ¬ 48 * r + 4 * cl.length = 48 * r + 4 * cl.length + 1 by omega)).trans ?_)
      rw [e54]
      exact if_pos rfl
    have z1 : A3 54 (48 * r + 4 * cl.length + 1) = nI a.2.2.length := by
      rw [← hA3]
      exact (if_neg (show ¬ 48 * r + 4 * cl.length + 1 = 48 * r + 4 * cl.length + 2 by omega)).trans (if_pos rfl)
    have z2 : A3 54 (48 * r + 4 * cl.length + 2) = -1 := by
      rw [← hA3]
      exact if_pos rfl
    have zE : ∀ k, k < 48 * r + 4 * cl.length → A3 54 k = A 54 k := fun k hk => by
      rw [← hA3]
      refine (if_neg (show ¬ k = 48 * r + 4 * cl.length + 2 by omega)).trans ((if_neg (show ¬ k = 48 * r + 4 * cl.length + 1 by omega)).trans ?_)
      rw [e54]
      exact if_neg (show ¬ k = 48 * r + 4 * cl.length by omega)
    have hE3 : ECl A3 r cl := fun c q hc9 => by
      have hcl := (List.getElem?_eq_some_iff.mp hc9).1
      rw [zE _ (by omega), zE _ (by omega), zE _ (by omega), zE _ (by omega)]
      exact hE c q hc9
    have z55 : A3 55 r = nI cl.length := by
      rw [← hA3]
      show A2 55 r = _
      rw [e55]
      exact h55
    clear hA3
    refine Rn.step (pc' := 75) rfl rfl ?_
    refine Rn.ldc2 (v := 26982) (pc' := 78) rfl (by decide) rfl ?_
    refine Rn.callV (pc' := 81) rfl (by decide) (by omega) rfl rfl rfl (x_takesWord (x := [105, 102]) (by omega) hR3.1 (by decide) (by decide)) (fun r_ m_ hc_ => ?_)
    by_cases hif : wdP T a.1 (leE T n a.1) [105, 102]
    rotate_left
    · obtain ⟨rfl, rfl⟩ := hc_.2 hif
      rw [if_neg (fun z => hif (if_w.mpr z))]
      refine Rn.ifc_eq (pc1 := 110) (pc2 := 84) rfl rfl rfl (fun h81 => ?_) (fun h81 => absurd rfl h81)
      refine Rn.conseq (l_X_w110 (q := (t.2.2.length, a.2.2.length, none, a.2.2.length)) hR3.here z55 hc hE3 z0 z1 z2 rfl) ?_
      rintro o m2 ⟨rfl, A5, rfl, g1, g2, g3, g4⟩
      exact ⟨_, _, rfl, (hF3.vv (by omega)).trans g1, hv14, rfl, g2, by rw [List.length_append]; exact g3, g4⟩
    obtain ⟨rfl, rfl⟩ := hc_.1 hif
    rw [if_pos (if_w.mp hif)]
    have hki := wd_kd h.1.2.2.2.1 (by decide) hif
    have hxa := nx_gt h.1.2.2.2.1 hba.2.1 (show ¬ kdE T n a.1 = 0 by rw [hki.1]; decide)
    have hR4 : RM (upd v2 8 (nI (leE T n a.1))) A3 T n r (gAd T n a) := hR3.at (by exact rnE_le hba.2.1) (by show skE T n (leE T n a.1) = skE T n (tkE T n a.1); rw [hki.2])
    refine Rn.ifc_eq (pc1 := 110) (pc2 := 84) rfl rfl rfl (fun h81 => absurd h81 (fun z => absurd z (by decide))) (fun h81 => ?_)
    refine Rn.step (pc' := 85) rfl rfl ?_
    refine Rn.getf (pc' := 88) rfl rfl rfl rfl rfl ?_
    refine Rn.step (pc' := 89) rfl rfl ?_
    refine Rn.iconst (v := 2) (pc' := 90) rfl (by decide) rfl ?_
    refine Rn.iadd (pc' := 91) rfl rfl ?_
    refine Rn.step (pc' := 92) rfl rfl ?_
    refine Rn.getf (pc' := 95) rfl rfl rfl rfl rfl ?_
    refine Rn.step (pc' := 96) rfl rfl ?_
    refine Rn.getf (pc' := 99) rfl rfl rfl rfl rfl ?_
    refine Rn.mald (k := r) (pc' := 100) rfl rfl (hR4.2.2.1) (by omega) (by decide) rfl ?_
    rw [show A3 53 r = nI a.2.2.length from hR3.2.2.2.2.2.2.1]
    refine Rn.mast (k := 48 * r + 4 * cl.length + 2) (pc' := 101) rfl rfl (by simp only [nI_lit, nI_add, pk_mul]) (by omega) (by decide) rfl ?_
    refine Rn.step (pc' := 102) rfl rfl ?_
    refine Rn.callV (pc' := 105) rfl (by decide) (by omega) rfl rfl rfl (x_tested (by omega) hR4.ccl (by show a.2.2.length ≤ nxE T n a.1; omega)) (fun r_ m_ hc_ => ?_)
    obtain ⟨v4, A4, rfl, hF4, hg⟩ := hc_
    have hv4 : v4 14 = v 14 := (hF4.1 14 (by decide) (by decide) (by decide) (by decide) (by decide) (by decide)).trans hv14
    have hF5 := ((hF3.vv (k := 8) (x := nI (leE T n a.1)) (by omega)).ccl (k := 48 * r + 4 * cl.length + 2) (x := nI a.2.2.length) (by omega)).trans hF4.four
    have e54b : A4 54 = upd (A3 54) (48 * r + 4 * cl.length + 2) (nI a.2.2.length) := hF4.2.1 54 (by decide) (by decide) (by decide)
    have e55b : A4 55 = A3 55 := hF4.2.1 55 (by decide) (by decide) (by decide)
    cases hU : gTs T n (gFa T n 10) (gAd T n a) with
    | inl e =>
      rw [hU] at hg
      obtain ⟨rfl, h9⟩ := hg
      refine Rn.ifc_ne (pc1 := 110) (pc2 := 108) rfl rfl rfl (fun h36 => absurd rfl h36) (fun h36 => ?_)
      refine Rn.iconst (v := 0) (pc' := 109) rfl (by decide) rfl ?_
      refine Rn.iret rfl rfl ?_
      exact ⟨_, _, rfl, hF5, hv4, rfl, h9⟩
    | inr b =>
      rw [hU] at hg
      obtain ⟨rfl, hRb⟩ := hg
      refine Rn.ifc_ne (pc1 := 110) (pc2 := 108) rfl rfl rfl (fun h36 => ?_) (fun h36 => absurd h36 (by decide))
      refine Rn.conseq (l_X_w110 (q := (t.2.2.length, a.2.2.length, some a.2.2.length, b.2.2.length)) hRb (by rw [e55b]; exact z55) hc ?_ ?_ ?_ ?_ rfl) ?_
      · intro c q hc9
        have hcl := (List.getElem?_eq_some_iff.mp hc9).1
        rw [e54b]
        obtain ⟨y0, y1, y2, y3⟩ := hE3 c q hc9
        exact ⟨(if_neg (by omega)).trans y0, (if_neg (by omega)).trans y1, (if_neg (by omega)).trans y2, (if_neg (by omega)).trans y3⟩
      · rw [e54b]
        exact (if_neg (by omega)).trans z0
      · rw [e54b]
        exact (if_neg (by omega)).trans z1
      · rw [e54b]
        exact if_pos rfl
      · rintro o m2 ⟨rfl, A5, rfl, g1, g2, g3, g4⟩
        exact ⟨_, _, rfl, hF5.trans g1, hv4, rfl, g2, by rw [List.length_append]; exact g3, g4⟩
end U1
end NB2
