/-! THE MODEL: its reader: what stands open. -/
section MY2
variable {m0 : xM} {v : Nat → Int32} {dx : Int64} {A : Nat → Nat → Int32} {LA : Nat → Nat → Int64} {s : Nat → Int32}
section T7
variable {T : Nat → Int32} {n r : Nat} {t : gS} {q : List Nat}
def stN (x : Nat) : Nat := if x = 13 then 1 else if x = 12 then 2 else if x = 11 then 3 else 0
def mS (k : Nat) : List Nat → gS → List Nat × gS
  | [], s => ([], s)
  | x :: q, s => if k ≤ stN x then mS k q (gPt (x, 0) s) else (x :: q, s)
def skA (f : Nat → Int32) : List Nat → Prop
  | [] => True
  | x :: q => f q.length = nI x ∧ skA f q
/-- the model's stack -/
abbrev SK (v : Nat → Int32) (A : Nat → Nat → Int32) (q : List Nat) : Prop := v 16 = nI q.length ∧ v 13 = nI (dpS q) ∧ dpS q ≤ 10 ∧ skA (A 57) q
def xFB (v : Nat → Int32) (A : Nat → Nat → Int32) (v1 : Nat → Int32) (A1 : Nat → Nat → Int32) (r : Nat) : Prop := (∀ k, k ≠ 8 → k ≠ 9 → k ≠ 10 → k ≠ 12 → k ≠ 13 → k ≠ 16 → v1 k = v k) ∧ (∀ k, k ≠ 52 → k ≠ 53 → k ≠ 57 → A1 k = A k) ∧ (∀ k, k < 400 * r → A1 52 k = A 52 k) ∧ ∀ k, k ≠ r → A1 53 k = A 53 k
theorem xFB.rfl (v : Nat → Int32) (A : Nat → Nat → Int32) (r : Nat) : xFB v A v A r := ⟨fun _ _ _ _ _ _ _ => Eq.refl _, fun _ _ _ _ => Eq.refl _, fun _ _ => Eq.refl _, fun _ _ => Eq.refl _⟩
theorem xFB.trans {v1 v2 : Nat → Int32} {A1 A2 : Nat → Nat → Int32} (h : xFB v A v1 A1 r) (g : xFB v1 A1 v2 A2 r) : xFB v A v2 A2 r := ⟨fun k a b c e x y => (g.1 k a b c e x y).trans (h.1 k a b c e x y), fun k a b c => (g.2.1 k a b c).trans (h.2.1 k a b c), fun k a => (g.2.2.1 k a).trans (h.2.2.1 k a), fun k a => (g.2.2.2 k a).trans (h.2.2.2 k a)⟩
theorem xFB.vv {v1 : Nat → Int32} {A1 : Nat → Nat → Int32} {k : Nat} {x : Int32} (h : xFB v A v1 A1 r) (hk : k = 8 ∨ k = 9 ∨ k = 10 ∨ k = 12 ∨ k = 13 ∨ k = 16) : xFB v A (upd v1 k x) A1 r := ⟨fun j a b c e u w => (if_neg (show ¬ j = k by omega)).trans (h.1 j a b c e u w), h.2⟩
theorem xFB.a {v1 : Nat → Int32} {A1 : Nat → Nat → Int32} {f : Nat → Int32} (h : xFB v A v1 A1 r) : xFB v A v1 (va_up A1 57 f) r := ⟨h.1, fun k a b c => (up_ne _ _ c).trans (h.2.1 k a b c), h.2.2⟩
theorem xFA.two {v1 : Nat → Int32} {A1 : Nat → Nat → Int32} (h : xFA v A v1 A1 r) : xFB v A v1 A1 r := ⟨fun k a b c e _ _ => h.1 k a b c e, fun k a b _ => h.2.1 k a b, h.2.2⟩
theorem SK.keep {v1 : Nat → Int32} {A1 : Nat → Nat → Int32} (hs : SK v A q) (h : xFA v A v1 A1 r) : SK v1 A1 q := ⟨(h.1 16 (by decide) (by decide) (by decide) (by decide)).trans hs.1, (h.1 13 (by decide) (by decide) (by decide) (by decide)).trans hs.2.1, hs.2.2.1, by rw [h.2.1 57 (by decide) (by decide)]; exact hs.2.2.2⟩
theorem SK.vv {k : Nat} {x : Int32} (hs : SK v A q) (hk : k ≠ 13 ∧ k ≠ 16) : SK (upd v k x) A q := ⟨(if_neg (show ¬ 16 = k by omega)).trans hs.1, (if_neg (show ¬ 13 = k by omega)).trans hs.2.1, hs.2.2⟩
theorem skA_up {f : Nat → Int32} {x : Int32} : ∀ (q : List Nat) (k : Nat), q.length ≤ k → skA f q → skA (upd f k x) q
  | [], _, _, _ => trivial
  | y :: q, k, hk, h => ⟨(if_neg (show ¬ q.length = k by have : (y :: q).length = q.length + 1 := rfl; omega)).trans h.1, skA_up q k (by have : (y :: q).length = q.length + 1 := rfl; omega) h.2⟩
theorem wfS_lt : ∀ (q : List Nat), wfS q → ∀ x, x ∈ q → x = 11 ∨ x = 12 ∨ x = 13 ∨ x = 91
  | [], _, _, h => absurd h List.not_mem_nil
  | y :: q, h, x, hx => by
    rcases List.mem_cons.mp hx with rfl | hx
    · rcases h.2 with e | e | e | e <;> omega
    · exact wfS_lt q h.1 x hx
theorem skA_in {f : Nat → Int32} : ∀ (q : List Nat), (∀ x, x ∈ q → x < 100) → skA f q → ∀ k, k < q.length → f k = 91 → 91 ∈ q
  | [], _, _, k, hk, _ => absurd hk (Nat.not_lt_zero _)
  | y :: q, hq, h, k, hk, e => by
    by_cases hl : k = q.length
    · subst hl
      have : nI y = nI 91 := h.1.symm.trans e
      have := (nI_eq (a := y) (b := 91) (by have := hq y List.mem_cons_self; omega) (by omega)).mp this
      rw [this]
      exact List.mem_cons_self
    · exact List.mem_cons_of_mem _ (skA_in q (fun x hx => hq x (List.mem_cons_of_mem _ hx)) h.2 k (by have : (y :: q).length = q.length + 1 := rfl; omega) e)
theorem skA_ex {f : Nat → Int32} : ∀ (q : List Nat), skA f q → 91 ∈ q → ∃ k, k < q.length ∧ f k = 91
  | [], _, h => absurd h List.not_mem_nil
  | y :: q, h, hx => by
    have hl : (y :: q).length = q.length + 1 := rfl
    rcases List.mem_cons.mp hx with rfl | hx
    · exact ⟨q.length, by omega, h.1⟩
    · obtain ⟨k, a, b⟩ := skA_ex q h.2 hx
      exact ⟨k, by omega, b⟩
theorem mS_p (k : Nat) : ∀ (q : List Nat) (s : gS), (mS k q s).2.1 = s.1 ∧ (mS k q s).2.2.1 = s.2.1 ∧ (mS k q s).1.length + (mS k q s).2.2.2.length = q.length + s.2.2.length ∧ mS k q (gAd T n s) = ((mS k q s).1, gAd T n (mS k q s).2)
  | [], s => ⟨rfl, rfl, rfl, rfl⟩
  | x :: q, s => by
    by_cases h : k ≤ stN x
    · rw [show mS k (x :: q) s = mS k q (gPt (x, 0) s) from if_pos h, show mS k (x :: q) (gAd T n s) = mS k q (gPt (x, 0) (gAd T n s)) from if_pos h]
      obtain ⟨a, b, c, e⟩ := mS_p k q (gPt (x, 0) s)
      have := gPt_l (x, 0) s
      have h2 : (x :: q).length = q.length + 1 := rfl
      exact ⟨a, b, by omega, e⟩
    · rw [show mS k (x :: q) s = (x :: q, s) from if_neg h, show mS k (x :: q) (gAd T n s) = (x :: q, gAd T n s) from if_neg h]
      exact ⟨rfl, rfl, rfl, rfl⟩
theorem x_opens {d c : Nat} (hd : 1 ≤ d) (h : RM v A T n r t) (hs : SK v A q) (h8 : v 8 = nI t.1) (hq : q.length < 400) : Cl d j_M_opens [.ref 50, .int (nI c)] (MM m0 v dx A LA) (fun o m2 => (dpS q < 10 → o = some (.int 1) ∧ m2 = MM m0 (upd (upd v 13 (nI (dpS q + 1))) 16 (nI (q.length + 1))) dx (va_up A 57 (upd (A 57) q.length (nI c))) LA) ∧ (¬ dpS q < 10 → o = some (.int 0) ∧ m2 = MM m0 (upd v 9 (nI (1 + 8 * t.1 + 2))) dx A LA)) := by
  have h10 := hs.2.2.1
  show Rn d j_M_opens 0 _ _ _ _
  refine Rn.step (pc' := 1) rfl rfl ?_
  refine Rn.getf (pc' := 4) rfl rfl rfl rfl rfl ?_
  refine Rn.iconst (v := 10) (pc' := 6) rfl (by decide) rfl ?_
  refine Rn.icmp_ne (pc1 := 19) (pc2 := 9) rfl rfl rfl (fun h6 => ?_) (fun h6 => ?_)
  · refine Rn.step (pc' := 20) rfl rfl ?_
    refine Rn.step (pc' := 21) rfl rfl ?_
    refine Rn.getf (pc' := 24) rfl rfl rfl rfl rfl ?_
    refine Rn.iconst (v := 1) (pc' := 25) rfl (by decide) rfl ?_
    refine Rn.iadd (pc' := 26) rfl rfl ?_
    rw [show v 13 + 1 = nI (dpS q + 1) by rw [hs.2.1, nI_lit, nI_add]]
    refine Rn.mput (pc' := 29) rfl rfl rfl rfl (by decide) rfl ?_
    refine Rn.step (pc' := 30) rfl rfl ?_
    refine Rn.getf (pc' := 33) rfl rfl rfl rfl rfl ?_
    refine Rn.step (pc' := 34) rfl rfl ?_
    refine Rn.getf (pc' := 37) rfl rfl rfl rfl rfl ?_
    refine Rn.step (pc' := 38) rfl rfl ?_
    refine Rn.mast (k := q.length) (pc' := 39) rfl rfl (by exact hs.1) (by omega) (by decide) rfl ?_
    refine Rn.step (pc' := 40) rfl rfl ?_
    refine Rn.step (pc' := 41) rfl rfl ?_
    refine Rn.getf (pc' := 44) rfl rfl rfl rfl rfl ?_
    refine Rn.iconst (v := 1) (pc' := 45) rfl (by decide) rfl ?_
    refine Rn.iadd (pc' := 46) rfl rfl ?_
    rw [show upd v 13 (nI (dpS q + 1)) 16 + 1 = nI (q.length + 1) by show v 16 + 1 = _; rw [hs.1, nI_lit, nI_add]]
    refine Rn.mput (pc' := 49) rfl rfl rfl rfl (by decide) rfl ?_
    refine Rn.iconst (v := 1) (pc' := 50) rfl (by decide) rfl ?_
    exact Rn.iret rfl (rfl) (⟨fun _ => ⟨rfl, rfl⟩, fun z => absurd (show v 13 = 10 by rw [hs.2.1, show dpS q = 10 by omega]; rfl) h6⟩)
  · refine Rn.step (pc' := 10) rfl rfl ?_
    refine Rn.iconst (v := 2) (pc' := 11) rfl (by decide) rfl ?_
    refine Rn.step (pc' := 12) rfl rfl ?_
    refine Rn.getf (pc' := 15) rfl rfl rfl rfl rfl ?_
    refine Rn.vi (pc' := 18) rfl (by decide) (by omega) rfl rfl rfl (by rw [h8]; exact x_M_fails (k := 2) (p := t.1) (by exact h.2.1)) ?_
    exact Rn.iret rfl (rfl) (⟨fun z => absurd ((nI_eq (a := dpS q) (b := 10) (by omega) (by omega)).mp (by rw [← hs.2.1]; exact h6)) (by omega), fun _ => ⟨rfl, rfl⟩⟩)
theorem x_strength {d x : Nat} {m : xM} (hx : x < 100) : Cl d j_M_strength [.int (nI x)] m (Pi (nI (stN x)) m) := by
  show Rn d j_M_strength 0 _ _ _ _
  refine Rn.step (pc' := 1) rfl rfl ?_
  refine Rn.iconst (v := 13) (pc' := 3) rfl (by decide) rfl ?_
  refine Rn.icmp_ne (pc1 := 10) (pc2 := 6) rfl rfl rfl (fun h3 => ?_) (fun h3 => ?_)
  · refine Rn.step (pc' := 11) rfl rfl ?_
    refine Rn.iconst (v := 12) (pc' := 13) rfl (by decide) rfl ?_
    refine Rn.icmp_ne (pc1 := 20) (pc2 := 16) rfl rfl rfl (fun h13 => ?_) (fun h13 => ?_)
    · refine Rn.step (pc' := 21) rfl rfl ?_
      refine Rn.iconst (v := 11) (pc' := 23) rfl (by decide) rfl ?_
      refine Rn.icmp_ne (pc1 := 30) (pc2 := 26) rfl rfl rfl (fun h23 => ?_) (fun h23 => ?_)
      · refine Rn.iconst (v := 0) (pc' := 31) rfl (by decide) rfl ?_
        exact Rn.iret rfl (rfl) (⟨by unfold stN; rw [if_neg (fun z => h3 (by rw [z]; rfl))]; rw [if_neg (fun z => h13 (by rw [z]; rfl))]; rw [if_neg (fun z => h23 (by rw [z]; rfl))]; rfl, rfl⟩)
      · refine Rn.iconst (v := 3) (pc' := 27) rfl (by decide) rfl ?_
        refine Rn.step (pc' := 31) rfl rfl ?_
        exact Rn.iret rfl (rfl) (⟨by unfold stN; rw [if_neg (fun z => h3 (by rw [z]; rfl))]; rw [if_neg (fun z => h13 (by rw [z]; rfl))]; rw [if_pos ((nI_eq (a := x) (b := 11) (by omega) (by omega)).mp h23)]; rfl, rfl⟩)
    · refine Rn.iconst (v := 2) (pc' := 17) rfl (by decide) rfl ?_
      refine Rn.step (pc' := 31) rfl rfl ?_
      exact Rn.iret rfl (rfl) (⟨by unfold stN; rw [if_neg (fun z => h3 (by rw [z]; rfl))]; rw [if_pos ((nI_eq (a := x) (b := 12) (by omega) (by omega)).mp h13)]; rfl, rfl⟩)
  · refine Rn.iconst (v := 1) (pc' := 7) rfl (by decide) rfl ?_
    refine Rn.step (pc' := 31) rfl rfl ?_
    exact Rn.iret rfl (rfl) (⟨by unfold stN; rw [if_pos ((nI_eq (a := x) (b := 13) (by omega) (by omega)).mp h3)]; rfl, rfl⟩)
theorem l_X_settles {d k : Nat} (hd : 1 ≤ d) (hk : 0 < k ∧ k < 10) : ∀ (q : List Nat) (v : Nat → Int32) (A : Nat → Nat → Int32) (t : gS), wfS q → RM v A T n r t → SK v A q → q.length + t.2.2.length ≤ 400 → Rn d j_M_settles 0 [.ref 50, .int (nI k)] [] (MM m0 v dx A LA) (fun o m2 => o = none ∧ ∃ v1 A1, m2 = MM m0 v1 dx A1 LA ∧ xFB v A v1 A1 r ∧ v1 8 = v 8 ∧ RM v1 A1 T n r (mS k q t).2 ∧ SK v1 A1 (mS k q t).1)
  | [], v, A, t, hq, h, hs, hl => by
    refine Rn.step (pc' := 1) rfl rfl ?_
    refine Rn.getf (pc' := 4) rfl rfl rfl rfl rfl ?_
    refine Rn.ifc_le (pc1 := 76) (pc2 := 7) rfl rfl rfl (fun h4 => ?_) (fun h4 => absurd (by rw [hs.1]; decide) h4)
    exact Rn.vret rfl (⟨rfl, v, A, rfl, xFB.rfl _ _ _, rfl, h, hs⟩)
  | x :: q, v, A, t, hq, h, hs, hl => by
    have hx0 := wfS_lt (x :: q) hq x List.mem_cons_self
    have hx : x < 100 := by omega
    have hlen : (x :: q).length = q.length + 1 := rfl
    have hA : A 57 q.length = nI x := hs.2.2.2.1
    have hst : stN x < 10 := by
      unfold stN
      repeat' split
      all_goals omega
    have hd10 := hs.2.2.1
    have hdp : dpS q ≤ dpS (x :: q) := Nat.le_add_right _ _
    refine Rn.step (pc' := 1) rfl rfl ?_
    refine Rn.getf (pc' := 4) rfl rfl rfl rfl rfl ?_
    refine Rn.ifc_le (pc1 := 76) (pc2 := 7) rfl rfl rfl (fun h4 => absurd h4 (fun z => absurd ((nI_leI (a := q.length + 1) (b := 0) (by omega) (by omega)).mp (by rw [← (show v 16 = nI (q.length + 1) from hs.1)]; exact z)) (by omega))) (fun h4 => ?_)
    refine Rn.step (pc' := 8) rfl rfl ?_
    refine Rn.getf (pc' := 11) rfl rfl rfl rfl rfl ?_
    refine Rn.step (pc' := 12) rfl rfl ?_
    refine Rn.getf (pc' := 15) rfl rfl rfl rfl rfl ?_
    refine Rn.iconst (v := 1) (pc' := 16) rfl (by decide) rfl ?_
    refine Rn.isub (pc' := 17) rfl rfl ?_
    refine Rn.mald (k := q.length) (pc' := 18) rfl rfl (by rw [hs.1]; exact nI_subw (a := q.length + 1) (b := 1) (by omega)) (by omega) (by decide) rfl ?_
    refine Rn.si (pc' := 21) rfl (by decide) (by omega) rfl rfl (by rw [hA]; exact x_strength hx) ?_
    refine Rn.step (pc' := 22) rfl rfl ?_
    refine Rn.icmp_lt (pc1 := 76) (pc2 := 25) rfl rfl rfl (fun h22 => ?_) (fun h22 => ?_)
    · exact Rn.vret rfl (⟨rfl, v, A, rfl, xFB.rfl _ _ _, rfl, by
                rw [show mS k (x :: q) t = (x :: q, t) from if_neg (fun z => absurd ((nI_leI (a := k) (b := stN x) (by omega) (by omega)).mpr z) (Int32.not_le.mpr h22))]
                exact ⟨h, hs⟩⟩)
    · refine Rn.step (pc' := 26) rfl rfl ?_
      refine Rn.step (pc' := 27) rfl rfl ?_
      refine Rn.getf (pc' := 30) rfl rfl rfl rfl rfl ?_
      refine Rn.iconst (v := 1) (pc' := 31) rfl (by decide) rfl ?_
      refine Rn.isub (pc' := 32) rfl rfl ?_
      rw [show v 16 - 1 = nI q.length by rw [hs.1]; exact nI_subw (a := q.length + 1) (b := 1) (by omega)]
      refine Rn.mput (pc' := 35) rfl rfl rfl rfl (by decide) rfl ?_
      have hR : RM (upd v 16 (nI q.length)) A T n r t := h.vv (by omega)
      have hA2 : A 57 q.length = nI x := hA
      refine Rn.step (pc' := 36) rfl rfl ?_
      refine Rn.step (pc' := 37) rfl rfl ?_
      refine Rn.getf (pc' := 40) rfl rfl rfl rfl rfl ?_
      refine Rn.step (pc' := 41) rfl rfl ?_
      refine Rn.getf (pc' := 44) rfl rfl rfl rfl rfl ?_
      refine Rn.mald (k := q.length) (pc' := 45) rfl rfl (rfl) (by omega) (by decide) rfl ?_
      refine Rn.iconst (v := 0) (pc' := 46) rfl (by decide) rfl ?_
      refine Rn.vv (pc' := 49) rfl (by decide) (by omega) rfl rfl rfl (by rw [hA2]; exact x_puts (x, 0) hR (by omega) rfl rfl) ?_
      refine Rn.step (pc' := 50) rfl rfl ?_
      refine Rn.getf (pc' := 53) rfl rfl rfl rfl rfl ?_
      refine Rn.step (pc' := 54) rfl rfl ?_
      refine Rn.getf (pc' := 57) rfl rfl rfl rfl rfl ?_
      refine Rn.mald (k := q.length) (pc' := 58) rfl rfl (rfl) (by omega) (by decide) rfl ?_
      refine Rn.iconst (v := 11) (pc' := 60) rfl (by decide) rfl ?_
      refine Rn.icmp_ne (pc1 := 0) (pc2 := 63) rfl rfl rfl (fun h60 => ?_) (fun h60 => ?_)
      · have hx11 : ¬ x = 11 := fun z => h60 (by show A 57 q.length = 11; rw [hA, z]; rfl)
        have hkx : k ≤ stN x := (nI_leI (a := k) (b := stN x) (by omega) (by omega)).mp (Int32.not_lt.mp h22)
        have hx91 : ¬ x = 91 := fun z => by rw [z] at hkx; exact absurd hkx (by show ¬ k ≤ 0; omega)
        rw [show mS k (x :: q) t = mS k q (gPt (x, 0) t) from if_pos hkx]
        refine Rn.conseq (l_X_settles hd hk q _ _ _ hq.1 hR.put ⟨rfl, ?_, ?_, hs.2.2.2.2⟩ (by rw [gPt_l]; omega)) ?_
        · show v 13 = _
          rw [hs.2.1, show dpS (x :: q) = dpS q by show dpS q + (if x = 11 ∨ x = 91 then 1 else 0) = _; rw [if_neg (by omega)]; omega]
        · have := hs.2.2.1
          exact Nat.le_trans (Nat.le_add_right _ _) this
        · rintro o m2 ⟨e1, v1, A1, e2, e3, e4, e5⟩
          exact ⟨e1, v1, A1, e2, (((xFB.rfl v A r).vv (by omega)).trans (xFA.put _ _ _ _ _).two).trans e3, e4, e5⟩
      · refine Rn.step (pc' := 64) rfl rfl ?_
        refine Rn.step (pc' := 65) rfl rfl ?_
        refine Rn.getf (pc' := 68) rfl rfl rfl rfl rfl ?_
        refine Rn.iconst (v := 1) (pc' := 69) rfl (by decide) rfl ?_
        refine Rn.isub (pc' := 70) rfl rfl ?_
        have hx11 : x = 11 := (nI_eq (a := x) (b := 11) (by omega) (by omega)).mp (by rw [← hA]; exact h60)
        rw [show upd v 16 (nI q.length) 13 - 1 = nI (dpS q) by show v 13 - 1 = _; rw [hs.2.1, show dpS (x :: q) = dpS q + 1 by show dpS q + (if x = 11 ∨ x = 91 then 1 else 0) = _; rw [if_pos (by omega)]]; exact nI_subw (a := dpS q + 1) (b := 1) (by omega)]
        refine Rn.mput (pc' := 73) rfl rfl rfl rfl (by decide) rfl ?_
        refine Rn.step (pc' := 0) rfl rfl ?_
        have hkx : k ≤ stN x := (nI_leI (a := k) (b := stN x) (by omega) (by omega)).mp (Int32.not_lt.mp h22)
        rw [show mS k (x :: q) t = mS k q (gPt (x, 0) t) from if_pos hkx]
        refine Rn.conseq (l_X_settles hd hk q _ _ _ hq.1 (hR.put.vv (by omega)) ⟨rfl, rfl, ?_, hs.2.2.2.2⟩ (by rw [gPt_l]; omega)) ?_
        · have := hs.2.2.1
          exact Nat.le_trans (Nat.le_add_right _ _) this
        · rintro o m2 ⟨e1, v1, A1, e2, e3, e4, e5⟩
          exact ⟨e1, v1, A1, e2, ((((xFB.rfl v A r).vv (by omega)).trans (xFA.put _ _ _ _ _).two).vv (by omega)).trans e3, e4, e5⟩
theorem x_settles {d k : Nat} (hd : 1 ≤ d) (hk : 0 < k ∧ k < 10) (hq : wfS q) (h : RM v A T n r t) (hs : SK v A q) (hl : q.length + t.2.2.length ≤ 400) : Cl d j_M_settles [.ref 50, .int (nI k)] (MM m0 v dx A LA) (fun o m2 => o = none ∧ ∃ v1 A1, m2 = MM m0 v1 dx A1 LA ∧ xFB v A v1 A1 r ∧ v1 8 = v 8 ∧ RM v1 A1 T n r (mS k q t).2 ∧ SK v1 A1 (mS k q t).1) := l_X_settles hd hk q v A t hq h hs hl
theorem l_X_inside {d : Nat} (hq : wfS q) (hs : SK v A q) (hl : q.length ≤ 400) (k : Nat) (hk : k ≤ q.length) (hall : ∀ j, j < k → ¬ A 57 j = 91) : Rn d j_M_isInside 2 [.ref 50, .int (nI k)] [] (MM m0 v dx A LA) (Pi (if 91 ∈ q then 1 else 0) (MM m0 v dx A LA)) := by
  refine Rn.step (pc' := 3) rfl rfl ?_
  refine Rn.step (pc' := 4) rfl rfl ?_
  refine Rn.getf (pc' := 7) rfl rfl rfl rfl rfl ?_
  refine Rn.icmp_ge (pc1 := 29) (pc2 := 10) rfl rfl rfl (fun h7 => ?_) (fun h7 => ?_)
  · have hk2 : k = q.length := by
      have := (nI_leI (a := q.length) (b := k) (by omega) (by omega)).mp (by rw [← hs.1]; exact h7)
      omega
    refine Rn.iconst (v := 0) (pc' := 30) rfl (by decide) rfl ?_
    exact Rn.iret rfl (rfl) (⟨by rw [if_neg (fun z => by obtain ⟨j, a, b⟩ := skA_ex q hs.2.2.2 z; exact hall j (by omega) b)], rfl⟩)
  · have hk2 : k < q.length := by
      have := mt (nI_leI (a := q.length) (b := k) (by omega) (by omega)).mpr (by rw [← hs.1]; exact h7)
      omega
    refine Rn.step (pc' := 11) rfl rfl ?_
    refine Rn.getf (pc' := 14) rfl rfl rfl rfl rfl ?_
    refine Rn.step (pc' := 15) rfl rfl ?_
    refine Rn.mald (k := k) (pc' := 16) rfl rfl (rfl) (by omega) (by decide) rfl ?_
    refine Rn.iconst (v := 91) (pc' := 18) rfl (by decide) rfl ?_
    refine Rn.icmp_ne (pc1 := 23) (pc2 := 21) rfl rfl rfl (fun h18 => ?_) (fun h18 => ?_)
    · refine Rn.step (pc' := 26) rfl rfl ?_
      refine Rn.step (pc' := 2) rfl rfl ?_
      rw [show nI k + Int32.ofInt 1 = nI (k + 1) from nI_add k 1]
      exact l_X_inside hq hs hl (k + 1) (by omega) (fun j hj => by
        by_cases e : j = k
        · subst e
          exact h18
        · exact hall j (by omega))
    · refine Rn.iconst (v := 1) (pc' := 22) rfl (by decide) rfl ?_
      exact Rn.iret rfl (rfl) (⟨by rw [if_pos (skA_in q (fun x hx => by have := wfS_lt q hq x hx; omega) hs.2.2.2 k hk2 h18)], rfl⟩)
termination_by q.length - k
theorem x_inside {d : Nat} (hq : wfS q) (hs : SK v A q) (hl : q.length ≤ 400) : Cl d j_M_isInside [.ref 50] (MM m0 v dx A LA) (Pi (if 91 ∈ q then 1 else 0) (MM m0 v dx A LA)) := by
  show Rn d j_M_isInside 0 _ _ _ _
  refine Rn.iconst (v := 0) (pc' := 1) rfl (by decide) rfl ?_
  refine Rn.step (pc' := 2) rfl rfl ?_
  exact l_X_inside hq hs hl 0 (Nat.zero_le _) (fun j hj => absurd hj (Nat.not_lt_zero _))
end T7
end MY2
