/-! THE MODEL: its reader: FACTS, TESTS. -/
section MZ2
variable {m0 : xM} {v : Nat → Int32} {dx : Int64} {A : Nat → Nat → Int32} {LA : Nat → Nat → Int64} {s : Nat → Int32}
section T8
variable {T : Nat → Int32} {n r : Nat} {t : gS} {q : List Nat}
theorem mS_wf (k : Nat) : ∀ (q : List Nat) (s : gS), wfS q → wfS (mS k q s).1
  | [], _, h => h
  | x :: q, s, h => by
    by_cases e : k ≤ stN x
    · rw [show mS k (x :: q) s = mS k q (gPt (x, 0) s) from if_pos e]
      exact mS_wf k q _ h.1
    · rw [show mS k (x :: q) s = (x :: q, s) from if_neg e]
      exact h
/-- no 'not' on top -/
abbrev top11 (q : List Nat) : Prop := ∀ u, ¬ q = 11 :: u
theorem mS_3 : ∀ (q : List Nat) (s : gS), wfS q → cnt T n q s = cnt T n (mS 3 q s).1 (mS 3 q s).2 ∧ top11 (mS 3 q s).1 ∧ dpS (mS 3 q s).1 ≤ dpS q
  | [], _, h => ⟨rfl, (fun u z => nomatch z), Nat.le_refl _⟩
  | x :: q, s, h => by
    by_cases e : 3 ≤ stN x
    · have hx : x = 11 := by
        unfold stN at e
        repeat' split at e
        all_goals omega
      subst hx
      rw [show mS 3 (11 :: q) s = mS 3 q (gPt (11, 0) s) from if_pos e, cnt_11]
      obtain ⟨a, b, c⟩ := mS_3 q (gPt (11, 0) s) h.1
      exact ⟨a, b, Nat.le_trans c (Nat.le_add_right _ _)⟩
    · rw [show mS 3 (x :: q) s = (x :: q, s) from if_neg e]
      refine ⟨rfl, fun u z => ?_, Nat.le_refl _⟩
      have : x = 11 := by injection z
      subst this
      exact e (by decide)
theorem gFs13 (s : gS) : gFs 13 s = gPt (13, 0) s := if_neg (by decide)
theorem gFs0 (s : gS) : gFs 0 s = s := if_pos rfl
theorem mS_1 : ∀ (q : List Nat) (s : gS), wfS q → ¬ wix T s.1 (leE T n s.1) ws5 0 = 0 → ¬ wix T s.1 (leE T n s.1) ws5 0 = 1 → gnd (mS 1 q s).1 ∧ cnt T n q s = aft T n (mS 1 q s).1 (mS 1 q s).2 ∧ (91 ∈ q ↔ ¬ (mS 1 q s).1 = [])
  | [], s, _, h0, h1 => ⟨Or.inl rfl, by rw [cnt_g (Or.inl rfl), tlv_end h0 h1, gFs0]; rfl, ⟨fun z => absurd z List.not_mem_nil, fun z => absurd rfl z⟩⟩
  | x :: q, s, h, h0, h1 => by
    rcases h.2 with rfl | rfl | ⟨rfl, hq⟩ | ⟨rfl, hq⟩
    · rw [show mS 1 (11 :: q) s = mS 1 q (gPt (11, 0) s) from if_pos (by decide), cnt_11]
      obtain ⟨a, b, c⟩ := mS_1 q (gPt (11, 0) s) h.1 h0 h1
      exact ⟨a, b, ⟨fun z => c.mp ((List.mem_cons.mp z).resolve_left (by decide)), fun z => List.mem_cons_of_mem _ (c.mpr z)⟩⟩
    · rw [show mS 1 (91 :: q) s = (91 :: q, s) from if_neg (by decide)]
      exact ⟨Or.inr ⟨q, rfl⟩, by rw [cnt_g (Or.inr ⟨q, rfl⟩), tlv_end h0 h1, gFs0], ⟨(fun _ z => nomatch z), fun _ => List.mem_cons_self⟩⟩
    · rw [show mS 1 (13 :: q) s = mS 1 q (gPt (13, 0) s) from if_pos (by decide), cnt_o, tlv_end h0 h1, gFs13]
      rcases hq with rfl | ⟨u, rfl⟩
      · exact ⟨Or.inl rfl, rfl, ⟨fun z => absurd ((List.mem_cons.mp z).resolve_left (by decide)) List.not_mem_nil, fun z => absurd rfl z⟩⟩
      · rw [show mS 1 (91 :: u) (gPt (13, 0) s) = (91 :: u, gPt (13, 0) s) from if_neg (by decide)]
        exact ⟨Or.inr ⟨u, rfl⟩, rfl, ⟨(fun _ z => nomatch z), fun _ => List.mem_cons_of_mem _ List.mem_cons_self⟩⟩
    · rw [show mS 1 (12 :: q) s = mS 1 q (gPt (12, 0) s) from if_pos (by decide), cnt_12]
      obtain ⟨a, b, c⟩ := mS_1 q (gPt (12, 0) s) h.1 h0 h1
      exact ⟨a, b, ⟨fun z => c.mp ((List.mem_cons.mp z).resolve_left (by decide)), fun z => List.mem_cons_of_mem _ (c.mpr z)⟩⟩
theorem mS_or (hT : ∀ i, -128 ≤ T i ∧ T i ≤ 127) : ∀ (q : List Nat) (s : gS), wfS q → s.1 ≤ n → wix T s.1 (leE T n s.1) ws5 0 = 1 → wfS (13 :: (mS 1 q s).1) ∧ cnt T n q s = gBd (gFa T n (10 - dpS (13 :: (mS 1 q s).1)) (gAd T n (mS 1 q s).2)) (cnt T n (13 :: (mS 1 q s).1))
  | [], s, _, hs, h1 => ⟨⟨trivial, Or.inr (Or.inr (Or.inl ⟨rfl, Or.inl rfl⟩))⟩, by rw [cnt_g (Or.inl rfl), tlv_or hT hs h1, gFs0]; rfl⟩
  | x :: q, s, h, hs, h1 => by
    rcases h.2 with rfl | rfl | ⟨rfl, hq⟩ | ⟨rfl, hq⟩
    · rw [show mS 1 (11 :: q) s = mS 1 q (gPt (11, 0) s) from if_pos (by decide), cnt_11]
      exact mS_or hT q (gPt (11, 0) s) h.1 hs h1
    · rw [show mS 1 (91 :: q) s = (91 :: q, s) from if_neg (by decide)]
      exact ⟨⟨h, Or.inr (Or.inr (Or.inl ⟨rfl, Or.inr ⟨q, rfl⟩⟩))⟩, by rw [cnt_g (Or.inr ⟨q, rfl⟩), tlv_or hT hs h1, gFs0]; rfl⟩
    · rw [show mS 1 (13 :: q) s = mS 1 q (gPt (13, 0) s) from if_pos (by decide), cnt_o, tlv_or hT hs h1, gFs13]
      rcases hq with rfl | ⟨u, rfl⟩
      · exact ⟨⟨trivial, Or.inr (Or.inr (Or.inl ⟨rfl, Or.inl rfl⟩))⟩, rfl⟩
      · rw [show mS 1 (91 :: u) (gPt (13, 0) s) = (91 :: u, gPt (13, 0) s) from if_neg (by decide)]
        exact ⟨⟨h.1, Or.inr (Or.inr (Or.inl ⟨rfl, Or.inr ⟨u, rfl⟩⟩))⟩, rfl⟩
    · rw [show mS 1 (12 :: q) s = mS 1 q (gPt (12, 0) s) from if_pos (by decide), cnt_12]
      exact mS_or hT q (gPt (12, 0) s) h.1 hs h1
theorem and_g (hT : ∀ i, -128 ≤ T i ∧ T i ≤ 127) {s : gS} (hs : s.1 ≤ n) (h1 : wix T s.1 (leE T n s.1) ws5 0 = 0) (hw : wfS q) (hq : q = [] ∨ ∃ u, q = 91 :: u ∨ q = 13 :: u) : mS 2 q s = (q, s) ∧ wfS (12 :: q) ∧ cnt T n q s = gBd (gFa T n (10 - dpS (12 :: q)) (gAd T n s)) (cnt T n (12 :: q)) := by
  rcases hq with rfl | ⟨u, rfl | rfl⟩
  · exact ⟨rfl, ⟨trivial, Or.inr (Or.inr (Or.inr ⟨rfl, Or.inl rfl⟩))⟩, by rw [cnt_g (Or.inl rfl), tlv_and hT hs h1]; exact gBd_c (fun z _ => by rw [cnt_12, cnt_g (Or.inl rfl)])⟩
  · exact ⟨if_neg (by decide), ⟨hw, Or.inr (Or.inr (Or.inr ⟨rfl, Or.inr ⟨u, Or.inl rfl⟩⟩))⟩, by rw [cnt_g (Or.inr ⟨u, rfl⟩), tlv_and hT hs h1]; exact gBd_c (fun z _ => by rw [cnt_12, cnt_g (Or.inr ⟨u, rfl⟩)])⟩
  · exact ⟨if_neg (by decide), ⟨hw, Or.inr (Or.inr (Or.inr ⟨rfl, Or.inr ⟨u, Or.inr rfl⟩⟩))⟩, by rw [cnt_o, tlv_and hT hs h1]; exact gBd_c (fun z _ => by rw [cnt_12, cnt_o])⟩
theorem mS_and (hT : ∀ i, -128 ≤ T i ∧ T i ≤ 127) (q : List Nat) (s : gS) (h : wfS q) (hn : top11 q) (hs : s.1 ≤ n) (h1 : wix T s.1 (leE T n s.1) ws5 0 = 0) : wfS (12 :: (mS 2 q s).1) ∧ cnt T n q s = gBd (gFa T n (10 - dpS (12 :: (mS 2 q s).1)) (gAd T n (mS 2 q s).2)) (cnt T n (12 :: (mS 2 q s).1)) := by
  cases q with
  | nil =>
    obtain ⟨a, b, c⟩ := and_g hT hs h1 h (Or.inl rfl)
    rw [a]
    exact ⟨b, c⟩
  | cons x q =>
    rcases h.2 with rfl | rfl | ⟨rfl, hq⟩ | ⟨rfl, hq⟩
    · exact absurd rfl (hn q)
    · obtain ⟨a, b, c⟩ := and_g hT hs h1 h (Or.inr ⟨q, Or.inl rfl⟩)
      rw [a]
      exact ⟨b, c⟩
    · obtain ⟨a, b, c⟩ := and_g hT hs h1 h (Or.inr ⟨q, Or.inr rfl⟩)
      rw [a]
      exact ⟨b, c⟩
    · obtain ⟨a, b, c⟩ := and_g (s := gPt (12, 0) s) hT hs h1 h.1 hq
      rw [show mS 2 (12 :: q) s = mS 2 q (gPt (12, 0) s) from if_pos (by decide), a, cnt_12]
      exact ⟨b, c⟩
theorem isN_w {p : Nat} : wdP T p (leE T n p) [110, 111, 116] ↔ isN T n p := by
  show _ ↔ (if wdP T p (leE T n p) [110, 111, 116] then nI 0 else -1) = 0
  by_cases h : wdP T p (leE T n p) [110, 111, 116]
  · rw [if_pos h]
    exact ⟨fun _ => rfl, fun _ => h⟩
  · rw [if_neg h]
    exact ⟨fun z => absurd z h, fun z => absurd z (by decide)⟩
theorem and_w {p : Nat} : wdP T p (leE T n p) [97, 110, 100] ↔ wix T p (leE T n p) ws5 0 = 0 := by
  show _ ↔ (if wdP T p (leE T n p) [97, 110, 100] then nI 0 else if wdP T p (leE T n p) [111, 114] then nI 1 else -1) = 0
  by_cases h : wdP T p (leE T n p) [97, 110, 100]
  · rw [if_pos h]
    exact ⟨fun _ => rfl, fun _ => h⟩
  · rw [if_neg h]
    refine ⟨fun z => absurd z h, fun z => ?_⟩
    by_cases h2 : wdP T p (leE T n p) [111, 114]
    · rw [if_pos h2] at z
      exact absurd z (by decide)
    · rw [if_neg h2] at z
      exact absurd z (by decide)
theorem or_w {p : Nat} (h : ¬ wdP T p (leE T n p) [97, 110, 100]) : wdP T p (leE T n p) [111, 114] ↔ wix T p (leE T n p) ws5 0 = 1 := by
  show _ ↔ (if wdP T p (leE T n p) [97, 110, 100] then nI 0 else if wdP T p (leE T n p) [111, 114] then nI 1 else -1) = 1
  rw [if_neg h]
  by_cases h2 : wdP T p (leE T n p) [111, 114]
  · rw [if_pos h2]
    exact ⟨fun _ => rfl, fun _ => h2⟩
  · rw [if_neg h2]
    exact ⟨fun z => absurd z h2, fun z => absurd z (by decide)⟩
theorem wd_kd {p : Nat} {x : List Nat} (hT : ∀ i, -128 ≤ T i ∧ T i ≤ 127) (hx : 0 < x.length) (h : wdP T p (leE T n p) x) : kdE T n p = 1 ∧ tkE T n p = leE T n p := by
  have k : kdE T n p = 1 := by
    by_cases k : kdE T n p = 1
    · exact k
    · have := h.1
      rw [kd_le hT k] at this
      omega
  exact ⟨k, (tz1 k).1⟩
/-- what stands behind a FACT that is read, under what is open -/
abbrev fOK (m0 : xM) (v : Nat → Int32) (dx : Int64) (A : Nat → Nat → Int32) (LA : Nat → Nat → Int64) (T : Nat → Int32) (n r : Nat) (t : gS) (X : gR) (o : Option Value) (m2 : xM) : Prop := ∃ v1 A1, m2 = MM m0 v1 dx A1 LA ∧ xFB v A v1 A1 r ∧ ((∃ e, X = .inl e ∧ o = some (.int 0) ∧ badE v1 e) ∨ (∃ q' t', X = cnt T n q' t' ∧ o = some (.int 1) ∧ RM v1 A1 T n r t' ∧ SK v1 A1 q' ∧ wfS q' ∧ q'.length + t'.2.2.length ≤ t'.1 ∧ t.1 < t'.1))
theorem SK.push {c : Nat} (hs : SK v A q) (hd : dpS q < 10) (hc : c = 11 ∨ c = 91) : SK (upd (upd v 13 (nI (dpS q + 1))) 16 (nI (q.length + 1))) (va_up A 57 (upd (A 57) q.length (nI c))) (c :: q) := by
  have e : dpS (c :: q) = dpS q + 1 := by
    show dpS q + (if c = 11 ∨ c = 91 then 1 else 0) = _
    rw [if_pos hc]
  exact ⟨rfl, by rw [e]; rfl, by omega, if_pos rfl, skA_up q _ (Nat.le_refl _) hs.2.2.2⟩
theorem l_X_fact {d : Nat} (hd : 7 ≤ d) : ∀ (f : Nat) (v : Nat → Int32) (A : Nat → Nat → Int32) (t : gS) (q : List Nat) (x : Value), RM v A T n r t → SK v A q → wfS q → n - t.1 < f → q.length + t.2.2.length ≤ t.1 → Rn d j_M_fact 2 [.ref 50, .int 1, x] [] (MM m0 v dx A LA) (fOK m0 v dx A LA T n r t (gBd (gFa T n (10 - dpS q) t) (cnt T n q)))
  | 0, _, _, _, _, _, _, _, _, h, _ => absurd h (Nat.not_lt_zero _)
  | f + 1, v, A, t, q, x, h, hs, hq, hf, hl => by
    have h4 := h.1.2.2.1
    have hp := h.1.le
    refine Rn.step (pc' := 3) rfl rfl ?_
    refine Rn.ifc_eq (pc1 := 75) (pc2 := 6) rfl rfl rfl (fun h3 => absurd h3 (fun z => absurd z (by decide))) (fun h3 => ?_)
    refine Rn.iconst (v := 0) (pc' := 7) rfl (by decide) rfl ?_
    refine Rn.step (pc' := 8) rfl rfl ?_
    refine Rn.step (pc' := 9) rfl rfl ?_
    refine Rn.vi (pc' := 12) rfl (by decide) (by omega) rfl rfl rfl (x_see h.1) ?_
    refine Rn.step (pc' := 13) rfl rfl ?_
    refine Rn.step (pc' := 14) rfl rfl ?_
    refine Rn.ldc2 (v := 7237492) (pc' := 17) rfl (by decide) rfl ?_
    refine Rn.vi (pc' := 20) rfl (by decide) (by omega) rfl rfl rfl (x_isWord (x := [110, 111, 116]) (by omega) h.1.here (by decide) (by decide)) ?_
    rw [updO]
    refine Rn.ifp_eq (pc1 := 43) (pc2 := 23) rfl rfl rfl (fun h20 => ?_) (fun h20 => ?_)
    · have hnt : ¬ isN T n t.1 := fun z => h20 (isN_w.mpr z)
      refine Rn.step (pc' := 44) rfl rfl ?_
      refine Rn.iconst (v := 91) (pc' := 46) rfl (by decide) rfl ?_
      refine Rn.icmp_ne (pc1 := 72) (pc2 := 49) rfl rfl rfl (fun h46 => ?_) (fun h46 => ?_)
      · refine Rn.step (pc' := 2) rfl rfl ?_
        refine Rn.step (pc' := 3) rfl rfl ?_
        refine Rn.ifc_eq (pc1 := 75) (pc2 := 6) rfl rfl rfl (fun h3 => ?_) (fun h3 => absurd (rfl) h3)
        have hbr : ¬ sgE T n t.1 91 := fun z => h46 ((cu_sg (by decide) (by decide) (by decide) (by decide) (by decide) (by decide) (by decide)).mpr z)
        refine Rn.step (pc' := 76) rfl rfl ?_
        refine Rn.callV (pc' := 79) rfl (by decide) (by omega) rfl rfl rfl (x_compare (by omega) h.here (by omega)) (fun r_ m_ hc_ => ?_)
        obtain ⟨v1, A1, rfl, hc1, hg⟩ := hc_
        rw [fa_cm (q := q) _ hnt hbr]
        cases hV : gCm T n t with
        | inl e =>
          rw [hV] at hg
          obtain ⟨rfl, h9⟩ := hg
          refine Rn.iret rfl rfl ?_
          exact ⟨_, _, rfl, ((xFB.rfl v A r).vv (by omega)).trans hc1.two, Or.inl ⟨e, rfl, rfl, h9⟩⟩
        | inr z =>
          rw [hV] at hg
          obtain ⟨rfl, h9⟩ := hg
          have hb := gCm_b h.1.2.2.2.1 hp hV
          unfold gB at hb
          refine Rn.iret rfl rfl ?_
          exact ⟨_, _, rfl, ((xFB.rfl v A r).vv (by omega)).trans hc1.two, Or.inr ⟨q, z, rfl, rfl, h9, SK.keep (hs.vv (by omega)) hc1, hq, by omega, by omega⟩⟩
      · have hbr : sgE T n t.1 91 := (cu_sg (by decide) (by decide) (by decide) (by decide) (by decide) (by decide) (by decide)).mp h46
        obtain ⟨hq1, hq2, hq3⟩ := sg_tk (T := T) (n := n) (p := t.1) (c := 91) h.1.2.2.2.1 (by decide) (by decide) (by decide) (by decide) (by decide) (by decide) h46 (by decide)
        have hx : t.1 < nxE T n t.1 := by
          have : t.1 + 1 ≤ skE T n (tkE T n t.1) := by rw [hq3]; exact rnE_ge
          exact this
        refine Rn.step (pc' := 50) rfl rfl ?_
        refine Rn.iconst (v := 91) (pc' := 52) rfl (by decide) rfl ?_
        refine Rn.callV (pc' := 55) rfl (by decide) (by omega) rfl rfl rfl (x_opens (c := 91) (q := q) (by omega) h.here (hs.vv (by omega)) rfl (by omega)) (fun r_ m_ hc_ => ?_)
        by_cases h10 : dpS q < 10
        rotate_left
        · obtain ⟨rfl, rfl⟩ := hc_.2 h10
          refine Rn.ifc_ne (pc1 := 60) (pc2 := 58) rfl rfl rfl (fun h36 => absurd rfl h36) (fun h36 => ?_)
          refine Rn.iconst (v := 0) (pc' := 59) rfl (by decide) rfl ?_
          refine Rn.iret rfl rfl ?_
          exact ⟨_, _, rfl, ((xFB.rfl v A r).vv (by omega)).vv (by omega), Or.inl ⟨_, (fa_br (q := q) hnt hbr).trans (if_neg h10), rfl, rfl, by omega⟩⟩
        obtain ⟨rfl, rfl⟩ := hc_.1 h10
        have hS2 := SK.push (c := 91) (hs.vv (k := 8) (x := nI t.1) (by omega)) h10 (by omega)
        have hR2 : RM (upd (upd (upd v 8 (nI t.1)) 13 (nI (dpS q + 1))) 16 (nI (q.length + 1))) (va_up A 57 (upd (A 57) q.length (nI 91))) T n r t := (RM.vv (RM.vv h.here (by omega)) (by omega))
        refine Rn.ifc_ne (pc1 := 60) (pc2 := 58) rfl rfl rfl (fun h55 => ?_) (fun h55 => absurd h55 (fun z => absurd z (by decide)))
        refine Rn.step (pc' := 61) rfl rfl ?_
        refine Rn.step (pc' := 62) rfl rfl ?_
        refine Rn.getf (pc' := 65) rfl rfl rfl rfl rfl ?_
        refine Rn.iconst (v := 1) (pc' := 66) rfl (by decide) rfl ?_
        refine Rn.iadd (pc' := 67) rfl rfl ?_
        refine Rn.mput (pc' := 70) rfl rfl rfl rfl (by decide) rfl ?_
        rw [show upd (upd (upd v 8 (nI t.1)) 13 (nI (dpS q + 1))) 16 (nI (q.length + 1)) 8 + 1 = nI (t.1 + 1) from nI_add _ 1]
        have hR3 : RM (upd (upd (upd (upd v 8 (nI t.1)) 13 (nI (dpS q + 1))) 16 (nI (q.length + 1))) 8 (nI (t.1 + 1))) (va_up A 57 (upd (A 57) q.length (nI 91))) T n r (gAd T n t) := hR2.at (by omega) (by show skE T n (t.1 + 1) = skE T n (tkE T n t.1); rw [hq3])
        refine Rn.iconst (v := 1) (pc' := 71) rfl (by decide) rfl ?_
        refine Rn.step (pc' := 72) rfl rfl ?_
        refine Rn.step (pc' := 2) rfl rfl ?_
        rw [fa_br (q := q) hnt hbr, if_pos h10]
        refine Rn.conseq (l_X_fact hd f _ _ (gAd T n t) (91 :: q) _ hR3 ?_ ⟨hq, Or.inr (Or.inl rfl)⟩ (by show n - nxE T n t.1 < f; omega) (by show q.length + 1 + t.2.2.length ≤ nxE T n t.1; omega)) ?_
        · exact SK.vv hS2 (by omega)
        · rintro o m2 ⟨v1, A1, e1, e2, e3⟩
          refine ⟨v1, A1, e1, (((((xFB.rfl v A r).vv (by omega)).vv (by omega)).vv (by omega)).a.vv (by omega)).trans e2, ?_⟩
          rcases e3 with e3 | ⟨q', t', f1, f2, f3, f4, f5, f6, f7⟩
          · exact Or.inl e3
          · exact Or.inr ⟨q', t', f1, f2, f3, f4, f5, f6, by have : nxE T n t.1 < t'.1 := f7; omega⟩
    · have hnt : isN T n t.1 := isN_w.mp h20
      have hkd := wd_kd h.1.2.2.2.1 (by decide) h20
      have hx := nx_gt h.1.2.2.2.1 hp (show ¬ kdE T n t.1 = 0 by rw [hkd.1]; decide)
      have hpn : t.1 < n := Nat.lt_of_lt_of_le hx.1 (tkE_le hp)
      refine Rn.step (pc' := 24) rfl rfl ?_
      refine Rn.iconst (v := 11) (pc' := 26) rfl (by decide) rfl ?_
      refine Rn.callV (pc' := 29) rfl (by decide) (by omega) rfl rfl rfl (x_opens (c := 11) (q := q) (by omega) h.here (hs.vv (by omega)) rfl (by omega)) (fun r_ m_ hc_ => ?_)
      by_cases h10 : dpS q < 10
      rotate_left
      · obtain ⟨rfl, rfl⟩ := hc_.2 h10
        refine Rn.ifc_ne (pc1 := 34) (pc2 := 32) rfl rfl rfl (fun h36 => absurd rfl h36) (fun h36 => ?_)
        refine Rn.iconst (v := 0) (pc' := 33) rfl (by decide) rfl ?_
        refine Rn.iret rfl rfl ?_
        exact ⟨_, _, rfl, ((xFB.rfl v A r).vv (by omega)).vv (by omega), Or.inl ⟨_, (fa_not (q := q) hnt).trans (if_neg h10), rfl, rfl, by omega⟩⟩
      obtain ⟨rfl, rfl⟩ := hc_.1 h10
      have hS2 := SK.push (c := 11) (hs.vv (k := 8) (x := nI t.1) (by omega)) h10 (by omega)
      have hR2 : RM (upd (upd (upd v 8 (nI t.1)) 13 (nI (dpS q + 1))) 16 (nI (q.length + 1))) (va_up A 57 (upd (A 57) q.length (nI 11))) T n r t := (RM.vv (RM.vv h.here (by omega)) (by omega))
      refine Rn.ifc_ne (pc1 := 34) (pc2 := 32) rfl rfl rfl (fun h29 => ?_) (fun h29 => absurd h29 (fun z => absurd z (by decide)))
      refine Rn.step (pc' := 35) rfl rfl ?_
      refine Rn.vv (pc' := 38) rfl (by decide) (by omega) rfl rfl rfl (x_M_pass (n := n) (i := t.1) (by exact h.1.2.1) h4 (by omega) rfl h.1.le) ?_
      rw [show (va_up A 57 (upd (A 57) q.length (nI 11))) 51 = T from h.1.1]
      have hR3 : RM (upd (upd (upd (upd v 8 (nI t.1)) 13 (nI (dpS q + 1))) 16 (nI (q.length + 1))) 8 (nI (leE T n t.1))) (va_up A 57 (upd (A 57) q.length (nI 11))) T n r (gAd T n t) := hR2.at (by exact rnE_le hp) (by show skE T n (leE T n t.1) = skE T n (tkE T n t.1); rw [hkd.2])
      refine Rn.iconst (v := 1) (pc' := 39) rfl (by decide) rfl ?_
      refine Rn.step (pc' := 40) rfl rfl ?_
      refine Rn.step (pc' := 72) rfl rfl ?_
      refine Rn.step (pc' := 2) rfl rfl ?_
      rw [fa_not (q := q) hnt, if_pos h10]
      refine Rn.conseq (l_X_fact hd f _ _ (gAd T n t) (11 :: q) _ hR3 ?_ ⟨hq, Or.inl rfl⟩ (by show n - nxE T n t.1 < f; omega) (by show q.length + 1 + t.2.2.length ≤ nxE T n t.1; omega)) ?_
      · exact SK.vv hS2 (by omega)
      · rintro o m2 ⟨v1, A1, e1, e2, e3⟩
        refine ⟨v1, A1, e1, (((((xFB.rfl v A r).vv (by omega)).vv (by omega)).vv (by omega)).a.vv (by omega)).trans e2, ?_⟩
        rcases e3 with e3 | ⟨q', t', f1, f2, f3, f4, f5, f6, f7⟩
        · exact Or.inl e3
        · exact Or.inr ⟨q', t', f1, f2, f3, f4, f5, f6, by have : nxE T n t.1 < t'.1 := f7; omega⟩
theorem x_fact {d : Nat} (hd : 7 ≤ d) (h : RM v A T n r t) (hs : SK v A q) (hq : wfS q) (hl : q.length + t.2.2.length ≤ t.1) : Cl d j_M_fact [.ref 50] (MM m0 v dx A LA) (fOK m0 v dx A LA T n r t (gBd (gFa T n (10 - dpS q) t) (cnt T n q))) := by
  show Rn d j_M_fact 0 _ _ _ _
  refine Rn.iconst (v := 1) (pc' := 1) rfl (by decide) rfl ?_
  refine Rn.step (pc' := 2) rfl rfl ?_
  exact l_X_fact hd (n + 1) v A t q _ h hs hq (by omega) hl
end T8
end MZ2
