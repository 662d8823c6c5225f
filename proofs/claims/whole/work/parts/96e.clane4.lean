/-! THE CLASS: a lane is read; lane(). -/
section NH2
variable {m0 : xM} {F I : Nat → Nat → Int32} {L : Nat → Nat → Int64} {R : Nat → Nat → Option Nat} {H : Value} {s w : Nat → Int32} {o : Nat} {gg : Prop}
section V5
variable {T : Nat → Int32} {n p d : Nat} {q : Nat → Int32}
/-- what is read of a lane before its first clause -/
abbrev iniQ (q : Nat → Int32) : Prop := (∀ k, k < 8 → q k = 0) ∧ q 8 = -1 ∧ q 9 = -1 ∧ ∀ x, x < 10 → q (100 + x) = 0
theorem iniQ.lv (h : iniQ q) : LV 0 0 0 0 q := ⟨⟨h.1 0 (by decide), Or.inl rfl, by decide⟩, ⟨h.1 2 (by decide), by decide⟩, ⟨h.1 3 (by decide), by decide⟩, ⟨h.1 4 (by decide), by decide⟩, fun b hb => absurd hb (Nat.not_lt_zero _), fun b hb => absurd hb (Nat.not_lt_zero _), fun x hx => ⟨0, by decide, h.2.2.2 x hx⟩, ⟨h.1 5 (by decide), h.1 6 (by decide), h.1 7 (by decide)⟩, Or.inl h.2.1, Or.inl h.2.2.1⟩
/-- what is untold is filled -/
def flQ (q : Nat → Int32) : Nat → Int32 := upd (upd q 8 (if q 8 = -1 then 30 else q 8)) 9 (if q 9 = -1 then 0 else q 9)
theorem tp_sg {f : Nat → Int32} {c : Int32} (h : TP f T n p) : (f 3 = 3 ∧ f 6 = c) ↔ sgE T n p c := by
  have hkb : kdE T n p < 4 := by
    unfold kdE
    repeat' split
    all_goals omega
  rw [h.2.1, h.2.2.2.2]
  exact ⟨fun z => ⟨(nI_eq (a := kdE T n p) (b := 3) (by omega) (by omega)).mp z.1, z.2⟩, fun z => ⟨by rw [z.1]; rfl, z.2⟩⟩
theorem up_clr {α : Type} {F : Nat → α} {a b c d e f g : α} {k : Nat} (h : k ≠ 43) : va_up (va_up (va_up (va_up (va_up (va_up (va_up F 43 a) 43 b) 43 c) 43 d) 43 e) 43 f) 43 g k = F k := by
  rw [up_ne _ _ h, up_ne _ _ h, up_ne _ _ h, up_ne _ _ h, up_ne _ _ h, up_ne _ _ h, up_ne _ _ h]
theorem c_L_clear (hd : 1 ≤ d) : Cl d j_Lane_clear [.ref 43] (CC m0 F I L R H) (fun o m2 => o = none ∧ ∃ F1, m2 = CC m0 F1 (va_up I 44 (filN (I 44) 0 10)) L R H ∧ (∀ k, k ≠ 43 → F1 k = F k) ∧ F1 43 6 = 0 ∧ F1 43 7 = 0 ∧ F1 43 8 = -1 ∧ F1 43 9 = -1 ∧ F1 43 10 = 0 ∧ F1 43 11 = 0 ∧ F1 43 12 = 0) := by
  show Rn d j_Lane_clear 0 _ _ _ _
  refine Rn.step (pc' := 1) rfl rfl ?_
  refine Rn.getf (pc' := 4) rfl rfl rfl rfl rfl ?_
  refine Rn.iconst (v := 0) (pc' := 5) rfl (by decide) rfl ?_
  refine Rn.sv (pc' := 8) rfl (by decide) (by omega) rfl rfl (c_fill 0 rfl (by decide)) ?_
  refine Rn.step (pc' := 9) rfl rfl ?_
  refine Rn.iconst (v := 0) (pc' := 10) rfl (by decide) rfl ?_
  refine Rn.cput (pc' := 13) rfl rfl rfl rfl rfl (by decide) rfl ?_
  refine Rn.step (pc' := 14) rfl rfl ?_
  refine Rn.iconst (v := 0) (pc' := 15) rfl (by decide) rfl ?_
  refine Rn.cput (pc' := 18) rfl rfl rfl rfl rfl (by decide) rfl ?_
  refine Rn.step (pc' := 19) rfl rfl ?_
  refine Rn.iconst (v := (-1)) (pc' := 20) rfl (by decide) rfl ?_
  refine Rn.cput (pc' := 23) rfl rfl rfl rfl rfl (by decide) rfl ?_
  refine Rn.step (pc' := 24) rfl rfl ?_
  refine Rn.iconst (v := (-1)) (pc' := 25) rfl (by decide) rfl ?_
  refine Rn.cput (pc' := 28) rfl rfl rfl rfl rfl (by decide) rfl ?_
  refine Rn.step (pc' := 29) rfl rfl ?_
  refine Rn.iconst (v := 0) (pc' := 30) rfl (by decide) rfl ?_
  refine Rn.cput (pc' := 33) rfl rfl rfl rfl rfl (by decide) rfl ?_
  refine Rn.step (pc' := 34) rfl rfl ?_
  refine Rn.iconst (v := 0) (pc' := 35) rfl (by decide) rfl ?_
  refine Rn.cput (pc' := 38) rfl rfl rfl rfl rfl (by decide) rfl ?_
  refine Rn.step (pc' := 39) rfl rfl ?_
  refine Rn.iconst (v := 0) (pc' := 40) rfl (by decide) rfl ?_
  refine Rn.cput (pc' := 43) rfl rfl rfl rfl rfl (by decide) rfl ?_
  refine Rn.vret rfl ⟨rfl, _, rfl, fun k hk => up_clr hk, rfl, rfl, rfl, rfl, rfl, rfl, rfl⟩
theorem c_L_fillU : Cl d j_Lane_fillUntold [.ref 43] (CC m0 F I L R H) (fun o m2 => o = none ∧ ∃ F1, m2 = CC m0 F1 I L R H ∧ (∀ k, k ≠ 43 → F1 k = F k) ∧ F1 43 8 = (if F 43 8 = -1 then 30 else F 43 8) ∧ F1 43 9 = (if F 43 9 = -1 then 0 else F 43 9) ∧ F1 43 6 = F 43 6 ∧ F1 43 7 = F 43 7 ∧ F1 43 10 = F 43 10 ∧ F1 43 11 = F 43 11 ∧ F1 43 12 = F 43 12) := by
  show Rn d j_Lane_fillUntold 0 _ _ _ _
  refine Rn.step (pc' := 1) rfl rfl ?_
  refine Rn.step (pc' := 2) rfl rfl ?_
  refine Rn.getf (pc' := 5) rfl rfl rfl rfl rfl ?_
  refine Rn.iconst (v := (-1)) (pc' := 6) rfl (by decide) rfl ?_
  refine Rn.icmp_ne (pc1 := 14) (pc2 := 9) rfl rfl rfl (fun h6 => ?_) (fun h6 => ?_)
  · refine Rn.step (pc' := 15) rfl rfl ?_
    refine Rn.getf (pc' := 18) rfl rfl rfl rfl rfl ?_
    refine Rn.cput (pc' := 21) rfl rfl rfl rfl rfl (by decide) rfl ?_
    refine Rn.step (pc' := 22) rfl rfl ?_
    refine Rn.step (pc' := 23) rfl rfl ?_
    refine Rn.getf (pc' := 26) rfl rfl rfl rfl rfl ?_
    refine Rn.iconst (v := (-1)) (pc' := 27) rfl (by decide) rfl ?_
    refine Rn.icmp_ne (pc1 := 34) (pc2 := 30) rfl rfl rfl (fun h27 => ?_) (fun h27 => ?_)
    · refine Rn.step (pc' := 35) rfl rfl ?_
      refine Rn.getf (pc' := 38) rfl rfl rfl rfl rfl ?_
      refine Rn.cput (pc' := 41) rfl rfl rfl rfl rfl (by decide) rfl ?_
      exact Rn.vret rfl (⟨rfl, _, rfl, fun k hk => (up_ne _ _ hk).trans (up_ne _ _ hk), (if_neg h6).symm, (if_neg (show ¬ F 43 9 = -1 from h27)).symm, rfl, rfl, rfl, rfl, rfl⟩)
    · refine Rn.iconst (v := 0) (pc' := 31) rfl (by decide) rfl ?_
      refine Rn.step (pc' := 38) rfl rfl ?_
      refine Rn.cput (pc' := 41) rfl rfl rfl rfl rfl (by decide) rfl ?_
      exact Rn.vret rfl (⟨rfl, _, rfl, fun k hk => (up_ne _ _ hk).trans (up_ne _ _ hk), (if_neg h6).symm, (if_pos (show F 43 9 = -1 from h27)).symm, rfl, rfl, rfl, rfl, rfl⟩)
  · refine Rn.iconst (v := 30) (pc' := 11) rfl (by decide) rfl ?_
    refine Rn.step (pc' := 18) rfl rfl ?_
    refine Rn.cput (pc' := 21) rfl rfl rfl rfl rfl (by decide) rfl ?_
    refine Rn.step (pc' := 22) rfl rfl ?_
    refine Rn.step (pc' := 23) rfl rfl ?_
    refine Rn.getf (pc' := 26) rfl rfl rfl rfl rfl ?_
    refine Rn.iconst (v := (-1)) (pc' := 27) rfl (by decide) rfl ?_
    refine Rn.icmp_ne (pc1 := 34) (pc2 := 30) rfl rfl rfl (fun h27 => ?_) (fun h27 => ?_)
    · refine Rn.step (pc' := 35) rfl rfl ?_
      refine Rn.getf (pc' := 38) rfl rfl rfl rfl rfl ?_
      refine Rn.cput (pc' := 41) rfl rfl rfl rfl rfl (by decide) rfl ?_
      exact Rn.vret rfl (⟨rfl, _, rfl, fun k hk => (up_ne _ _ hk).trans (up_ne _ _ hk), (if_pos h6).symm, (if_neg (show ¬ F 43 9 = -1 from h27)).symm, rfl, rfl, rfl, rfl, rfl⟩)
    · refine Rn.iconst (v := 0) (pc' := 31) rfl (by decide) rfl ?_
      refine Rn.step (pc' := 38) rfl rfl ?_
      refine Rn.cput (pc' := 41) rfl rfl rfl rfl rfl (by decide) rfl ?_
      exact Rn.vret rfl (⟨rfl, _, rfl, fun k hk => (up_ne _ _ hk).trans (up_ne _ _ hk), (if_pos h6).symm, (if_pos (show F 43 9 = -1 from h27)).symm, rfl, rfl, rfl, rfl, rfl⟩)
def gXL (F1 I1 : Nat → Nat → Int32) (o : Option Value) : gX → Prop
  | .inl e => o = some (.int 0) ∧ F1 1 2 = nI e
  | .inr z => o = some (.int 1) ∧ LQ (flQ z.2) F1 I1
def gXD (m0 : xM) (F I : Nat → Nat → Int32) (L : Nat → Nat → Int64) (R : Nat → Nat → Option Nat) (H : Value) (x : gX) (o : Option Value) (m2 : xM) : Prop := ∃ F1 I1, m2 = CC m0 F1 I1 L R H ∧ cFL F I F1 I1 ∧ gXL F1 I1 o x
theorem gXD.mono {F1 I1 : Nat → Nat → Int32} {x : gX} {o : Option Value} {m2 : xM} (h : gXD m0 F1 I1 L R H x o m2) (hc : cFL F I F1 I1) : gXD m0 F I L R H x o m2 := by
  obtain ⟨F2, I2, e, c, g⟩ := h
  exact ⟨F2, I2, e, hc.trans c, g⟩
theorem flQ_n {j : Nat} (h : j ≠ 8) (h2 : j ≠ 9) : flQ q j = q j := by
  unfold flQ
  rw [upN _ _ h2, upN _ _ h]
theorem LQ.fl {F1 : Nat → Nat → Int32} {PP Bn Fn Wn : Nat} (hv : LV PP Bn Fn Wn q) (h : LQ q F I) (h8 : F1 43 8 = (if F 43 8 = -1 then 30 else F 43 8)) (h9 : F1 43 9 = (if F 43 9 = -1 then 0 else F 43 9)) (e1 : F1 43 6 = F 43 6) (e2 : F1 43 7 = F 43 7) (e3 : F1 43 10 = F 43 10) (e4 : F1 43 11 = F 43 11) (e5 : F1 43 12 = F 43 12) : LQ (flQ q) F1 I := by
  unfold LQ at h ⊢
  rw [flQ_n (by decide) (by decide), flQ_n (by decide) (by decide), flQ_n (by decide) (by decide), hv.c2, hv.c3, hv.c4]
  rw [hv.c2, hv.c3, hv.c4] at h
  obtain ⟨l1, l2, l3, l4, l5, l6, l7, l8, l9, l10, l11, l12⟩ := h
  have b6 := hv.2.1.2
  have b4 := hv.2.2.1.2
  have b10 := hv.2.2.2.1.2
  refine ⟨(e1.trans l1).trans (flQ_n (by decide) (by decide)).symm, (e2.trans l2).trans (flQ_n (by decide) (by decide)).symm, ?_, ?_, (e3.trans l5).trans (flQ_n (by decide) (by decide)).symm, (e4.trans l6).trans (flQ_n (by decide) (by decide)).symm, (e5.trans l7).trans (flQ_n (by decide) (by decide)).symm, fun x hx => (l8 x hx).trans (flQ_n (by omega) (by omega)).symm, fun x hx => (l9 x hx).trans (flQ_n (by omega) (by omega)).symm, fun x hx => (l10 x hx).trans (flQ_n (by omega) (by omega)).symm, fun x hx => (l11 x hx).trans (flQ_n (by omega) (by omega)).symm, fun x hx => (l12 x hx).trans (flQ_n (by omega) (by omega)).symm⟩
  · rw [h8, l3]
    unfold flQ
    rw [upN _ _ (by decide), upS]
  · rw [h9, l4]
    unfold flQ
    rw [upS]
theorem c_T_w0T (hd : 6 ≤ d) (hS : STR0 m0) (hI : I 2 = T) (hT : ∀ i, -128 ≤ T i ∧ T i ≤ 127) (ht : TP (F 1) T n p) (h4 : n ≤ 400) (hp : p ≤ n) : Cl d j_Tape_wordIn [.ref 1, .ref (xS + 0)] (CC m0 F I L R H) (Pi (wix T p (leE T n p) ws0 0) (CC m0 F I L R H)) := by
  subst hI
  exact c_T_w0 hd hS hT ht h4 hp
theorem l_L77 {k : Nat} {x : Value} {z : gT} {ld : gT → gX} {PP Bn Fn Wn : Nat} (hd : 8 ≤ d) (hI : I 2 = T) (tp : TP (F 1) T n z.1) (hp : z.1 ≤ n) (h4 : n ≤ 400) (hv : LV PP Bn Fn Wn z.2) (hq : LQ z.2 F I) (kk : ∀ F9 I9, I9 2 = T → TP (F9 1) T n (nxE T n z.1) → LQ z.2 F9 I9 → I9 = I → Rn d j_Lane_read 10 [.ref 43, .ref 1, .int (nI (k + 1)), x] [] (CC m0 F9 I9 L R H) (gXD m0 F9 I9 L R H (ld (nxE T n z.1, z.2)))) : Rn d j_Lane_read 77 [.ref 43, .ref 1, .int (nI k), x] [] (CC m0 F I L R H) (gXD m0 F I L R H (gLz T n ld z)) := by
  obtain ⟨p, q⟩ := z
  replace tp : TP (F 1) T n p := tp
  replace hp : p ≤ n := hp
  replace hv : LV PP Bn Fn Wn q := hv
  replace hq : LQ q F I := hq
  have hkb : kdE T n p < 4 := by
    unfold kdE
    repeat' split
    all_goals omega
  refine Rn.step (pc' := 78) rfl rfl ?_
  refine Rn.iconst (v := 59) (pc' := 80) rfl (by decide) rfl ?_
  refine Rn.vi (pc' := 83) rfl (by decide) (by omega) rfl rfl rfl (c_T_sign 59) ?_
  refine Rn.ifp_ne (pc1 := 111) (pc2 := 86) rfl rfl rfl (fun h83 => ?_) (fun h83 => ?_)
  · refine Rn.step (pc' := 112) rfl rfl ?_
    refine Rn.callV (pc' := 115) rfl (by decide) (by omega) rfl rfl rfl (c_T_next (n := n) (q := tkE T n p) (by omega) (by exact tp.1) h4 (by exact tp.2.2.2.1) (tkE_le hp)) (fun r_ m_ hc_ => ?_)
    obtain ⟨rfl, f1, rfl, e3, _⟩ := hc_
    have t2 : TP f1 T n (nxE T n p) := by subst hI; exact e3
    refine Rn.step (pc' := 118) rfl rfl ?_
    refine Rn.step (pc' := 10) rfl rfl ?_
    rw [show gLz T n ld (p, q) = ld (nxE T n p, q) from if_pos ((tp_sg tp).mp h83)]
    refine Rn.ls4 rfl rfl (congrArg Value.int (nI_i1 k)) rfl ?_
    exact Rn.conseq (kk _ _ hI t2 hq rfl) (fun r_ m_ hg => hg.mono ((cFL.rfl F I).f1 _))
  · have hsg : ¬ sgE T n p 59 := fun z => h83 ((tp_sg tp).mpr z)
    refine Rn.step (pc' := 87) rfl rfl ?_
    refine Rn.callV (pc' := 90) rfl (by decide) (by omega) rfl rfl rfl (c_L_fillU) (fun r_ m_ hc_ => ?_)
    obtain ⟨rfl, F1, rfl, u1, u8, u9, u6, u7, u10, u11, u12⟩ := hc_
    have tp1 : TP (F1 1) T n p := by rw [u1 1 (by decide)]; exact tp
    have hq1 : LQ (flQ q) F1 I := LQ.fl hv hq u8 u9 u6 u7 u10 u11 u12
    have c1 : cFL F I F1 I := ⟨fun k _ b => u1 k b, fun _ _ => rfl⟩
    refine Rn.step (pc' := 91) rfl rfl ?_
    refine Rn.getf (pc' := 94) rfl rfl rfl rfl rfl ?_
    refine Rn.ifc_eq (pc1 := 105) (pc2 := 97) rfl rfl rfl (fun h94 => ?_) (fun h94 => ?_)
    · rw [show gLz T n ld (p, q) = .inr (p, q) from (if_neg hsg).trans (if_pos ((nI_eq (a := kdE T n p) (b := 0) (by omega) (by omega)).mp (tp1.2.1.symm.trans h94)))]
      refine Rn.iconst (v := 1) (pc' := 106) rfl (by decide) rfl ?_
      refine Rn.step (pc' := 110) rfl rfl ?_
      exact Rn.iret rfl (rfl) (⟨_, _, rfl, c1, rfl, hq1⟩)
    · rw [show gLz T n ld (p, q) = .inl (1 + 8 * p + 0) from (if_neg hsg).trans (if_neg (fun z => h94 (tp1.2.1.trans (by rw [z]; rfl))))]
      refine Rn.step (pc' := 98) rfl rfl ?_
      refine Rn.iconst (v := 0) (pc' := 99) rfl (by decide) rfl ?_
      refine Rn.vi (pc' := 102) rfl (by decide) (by omega) rfl rfl rfl (c_T_fail (k := 0) (p := p) tp1.2.2.1) ?_
      refine Rn.ifc_eq (pc1 := 109) (pc2 := 105) rfl rfl rfl (fun h102 => ?_) (fun h102 => absurd (rfl) h102)
      refine Rn.iconst (v := 0) (pc' := 110) rfl (by decide) rfl ?_
      exact Rn.iret rfl (rfl) (⟨_, _, rfl, c1.f1 _, rfl, rfl⟩)
set_option maxHeartbeats 4000000 in
theorem l_L_read (hd : 8 ≤ d) (hS : STR0 m0) : ∀ (f k : Nat) (F I : Nat → Nat → Int32) (p : Nat) (q : Nat → Int32) (x : Value) (PP Bn Fn Wn : Nat), (∀ i, -128 ≤ T i ∧ T i ≤ 127) → I 2 = T → TP (F 1) T n p → p ≤ n → LV PP Bn Fn Wn q → LQ q F I → n ≤ 400 ∧ f + k = 41 ∧ k ≤ 40 → (k = 0 ∧ q 0 = 0 ∨ 0 < k ∧ 0 < q 0) → Rn d j_Lane_read 10 [.ref 43, .ref 1, .int (nI k), x] [] (CC m0 F I L R H) (gXD m0 F I L R H (gLd T n f k (p, q)))
  | 0, k, _, _, _, _, _, _, _, _, _, _, _, _, _, _, _, h, _ => absurd h.2 (by omega)
  | f + 1, k, F, I, p, q, x, PP, Bn, Fn, Wn, hT, hI, tp, hp, hv, hq, h9, h0 => by
    obtain ⟨h4, hf, hk40⟩ := h9
    have hpos : q 0 = 0 ∨ 0 < q 0 := by
      rcases h0 with h0 | h0
      · exact Or.inl h0.2
      · exact Or.inr h0.2
    refine Rn.step (pc' := 11) rfl rfl ?_
    refine Rn.iconst (v := 40) (pc' := 13) rfl (by decide) rfl ?_
    refine Rn.icmp_gt (pc1 := 121) (pc2 := 16) rfl rfl rfl (fun h13 => absurd h13 (fun z => absurd z (Int32.not_lt.mpr ((nI_leI (a := k) (b := 40) (by omega) (by omega)).mpr (by omega))))) (fun h13 => ?_)
    refine Rn.step (pc' := 17) rfl rfl ?_
    refine Rn.step (pc' := 19) rfl rfl ?_
    refine Rn.vi (pc' := 22) rfl (by decide) (by omega) rfl rfl rfl (c_T_w0T (by omega) hS hI hT tp h4 hp) ?_
    refine Rn.step (pc' := 23) rfl rfl ?_
    refine Rn.step (pc' := 24) rfl rfl ?_
    refine Rn.ifc_ge (pc1 := 33) (pc2 := 27) rfl rfl rfl (fun h24 => ?_) (fun h24 => ?_)
    · have hwn : ¬ wix T p (leE T n p) ws0 0 < 0 := Int32.not_lt.mpr h24
      obtain ⟨w, hw7, ew⟩ : ∃ w, w < 7 ∧ wix T p (leE T n p) ws0 0 = nI w := by
        rcases wix_r (T := T) (p := p) (q := leE T n p) ws0 0 with e | ⟨j, _, b, e⟩
        · rw [e] at h24
          exact absurd h24 (by decide)
        · exact ⟨j, by rw [Nat.zero_add] at b; exact b, e⟩
      have hw6 : w ≤ 6 := by omega
      refine Rn.step (pc' := 34) rfl rfl ?_
      refine Rn.iconst (v := 40) (pc' := 36) rfl (by decide) rfl ?_
      refine Rn.icmp_eq (pc1 := 56) (pc2 := 39) rfl rfl rfl (fun h36 => ?_) (fun h36 => ?_)
      · rw [show gLd T n (f + 1) k (p, q) = .inl (1 + 8 * p + 4) by show gBx (gLc T n k (p, q)) _ = _; rw [show gLc T n k (p, q) = .inl (1 + 8 * p + 4) from (if_neg hwn).trans (if_pos ((nI_eq (a := k) (b := 40) (by omega) (by omega)).mp h36))]; rfl]
        refine Rn.step (pc' := 57) rfl rfl ?_
        refine Rn.iconst (v := 4) (pc' := 58) rfl (by decide) rfl ?_
        refine Rn.vi (pc' := 61) rfl (by decide) (by omega) rfl rfl rfl (c_T_fail (k := 4) (p := p) tp.2.2.1) ?_
        exact Rn.iret rfl (rfl) (⟨_, _, rfl, (cFL.rfl F I).f1 _, rfl, rfl⟩)
      · have hk40 : ¬ k = 40 := fun z => h36 (by rw [z]; rfl)
        have hld : gLd T n (f + 1) k (p, q) = gBx (gLw T n p w q) (gLz T n (gLd T n f (k + 1))) := by
          show gBx (gLc T n k (p, q)) _ = _
          rw [show gLc T n k (p, q) = gLw T n p (cN (wix T p (leE T n p) ws0 0)) q from (if_neg hwn).trans (if_neg hk40), ew, show cN (nI w) = w from nI_clamp (by omega)]
        rw [ew]
        refine Rn.step (pc' := 40) rfl rfl ?_
        refine Rn.step (pc' := 41) rfl rfl ?_
        refine Rn.step (pc' := 42) rfl rfl ?_
        refine Rn.ifc_ne (pc1 := 49) (pc2 := 45) rfl rfl rfl (fun h42 => ?_) (fun h42 => ?_)
        · have hq0 : ¬ q 0 = 0 := fun z => by rcases h0 with h0 | h0; exact h42 (by rw [h0.1]; rfl); rw [z] at h0; exact absurd h0.2 (by decide)
          refine Rn.iconst (v := 0) (pc' := 50) rfl (by decide) rfl ?_
          refine Rn.callV (pc' := 53) rfl (by decide) (by omega) rfl rfl rfl (by have := c_L_may (m0 := m0) (L := L) (R := R) (H := H) (d := d - 1) (k := w) (fi := q 0 = 0) hw6 hv hq; rw [if_neg hq0] at this; exact this) (fun r_ m_ hc_ => ?_)
          by_cases hok : okC w (q 0 = 0) q
          rotate_left
          · obtain ⟨rfl, rfl⟩ := hc_.2 hok
            rw [show gLd T n (f + 1) k (p, q) = .inl (1 + 8 * p + 4) by rw [hld, gLw_4 hw6 hok hpos]; rfl]
            refine Rn.ifc_ne (pc1 := 62) (pc2 := 56) rfl rfl rfl (fun h36 => absurd rfl h36) (fun h36 => ?_)
            refine Rn.step (pc' := 57) rfl rfl ?_
            refine Rn.iconst (v := 4) (pc' := 58) rfl (by decide) rfl ?_
            refine Rn.vi (pc' := 61) rfl (by decide) (by omega) rfl rfl rfl (c_T_fail (k := 4) (p := p) tp.2.2.1) ?_
            exact Rn.iret rfl rfl ⟨_, _, rfl, (cFL.rfl F I).f1 _, rfl, rfl⟩
          obtain ⟨rfl, rfl⟩ := hc_.1 hok
          rw [hld, gLw_k hw6 hok hpos]
          clear hc_
          refine Rn.ifc_ne (pc1 := 62) (pc2 := 56) rfl rfl rfl (fun h53 => ?_) (fun h53 => absurd h53 (fun z => absurd z (by decide)))
          refine Rn.step (pc' := 63) rfl rfl ?_
          refine Rn.callV (pc' := 66) rfl (by decide) (by omega) rfl rfl rfl (c_T_next (n := n) (q := tkE T n p) (by omega) (by exact tp.1) h4 (by exact tp.2.2.2.1) (tkE_le hp)) (fun r_ m_ hc_ => ?_)
          obtain ⟨rfl, f1, rfl, e3, _⟩ := hc_
          have t2 : TP f1 T n (nxE T n p) := by rw [hI] at e3; exact e3
          refine Rn.step (pc' := 67) rfl rfl ?_
          refine Rn.step (pc' := 68) rfl rfl ?_
          refine Rn.step (pc' := 69) rfl rfl ?_
          refine Rn.callV (pc' := 72) rfl (by decide) (by omega) rfl rfl rfl (c_L_cl (p := nxE T n p) (by omega) hI t2 (nx_le hp) h4 hv hq hw6 hok) (fun r_ m_ hc_ => ?_)
          obtain ⟨F2, I2, rfl, hF2, hg⟩ := hc_
          have hF3 : cFL F I F2 I2 := ((cFL.rfl F I).f1 f1).trans hF2
          cases hX : gLk T n w (nxE T n p, q) with
          | inl e =>
            rw [hX] at hg
            obtain ⟨rfl, g1⟩ := hg
            refine Rn.ifc_ne (pc1 := 77) (pc2 := 75) rfl rfl rfl (fun h36 => absurd rfl h36) (fun h36 => ?_)
            refine Rn.iconst (v := 0) (pc' := 76) rfl (by decide) rfl ?_
            exact Rn.iret rfl rfl ⟨_, _, rfl, hF3, rfl, g1⟩
          | inr z =>
            rw [hX] at hg
            obtain ⟨rfl, t3, hq3⟩ := hg
            refine Rn.ifc_ne (pc1 := 77) (pc2 := 75) rfl rfl rfl (fun h36 => ?_) (fun h36 => absurd h36 (by decide))
            obtain ⟨P', B', E', W', hv3, hp3, hz3⟩ := gLw_v hv ((gLw_k hw6 hok hpos).trans hX)
            have hI3 : I2 2 = T := (hF3.2 2 (by omega)).trans hI
            show Rn _ _ _ _ _ _ (gXD m0 F I L R H (gLz T n (gLd T n f (k + 1)) z))
            refine Rn.conseq (l_L77 hd hI3 t3 hz3 h4 hv3 hq3 (fun F9 I9 a1 a2 a3 a4 => ?_)) (fun r_ m_ hg => hg.mono hF3)
            exact l_L_read hd hS f (k + 1) F9 I9 (nxE T n z.1) z.2 _ _ _ _ _ hT a1 a2 (nx_le hz3) hv3 a3 (by omega) (Or.inr ⟨by omega, by rw [hv3.1.1]; exact (nI_ltI (a := 0) (b := P') (by omega) (by have := hv3.1.2.2; omega)).mpr (by omega)⟩)
        · have hq0 : q 0 = 0 := by rcases h0 with h0 | h0; exact h0.2; exact absurd ((nI_eq (a := k) (b := 0) (by omega) (by omega)).mp h42) (by omega)
          refine Rn.iconst (v := 1) (pc' := 46) rfl (by decide) rfl ?_
          refine Rn.step (pc' := 50) rfl rfl ?_
          refine Rn.callV (pc' := 53) rfl (by decide) (by omega) rfl rfl rfl (by have := c_L_may (m0 := m0) (L := L) (R := R) (H := H) (d := d - 1) (k := w) (fi := q 0 = 0) hw6 hv hq; rw [if_pos hq0] at this; exact this) (fun r_ m_ hc_ => ?_)
          by_cases hok : okC w (q 0 = 0) q
          rotate_left
          · obtain ⟨rfl, rfl⟩ := hc_.2 hok
            rw [show gLd T n (f + 1) k (p, q) = .inl (1 + 8 * p + 4) by rw [hld, gLw_4 hw6 hok hpos]; rfl]
            refine Rn.ifc_ne (pc1 := 62) (pc2 := 56) rfl rfl rfl (fun h36 => absurd rfl h36) (fun h36 => ?_)
            refine Rn.step (pc' := 57) rfl rfl ?_
            refine Rn.iconst (v := 4) (pc' := 58) rfl (by decide) rfl ?_
            refine Rn.vi (pc' := 61) rfl (by decide) (by omega) rfl rfl rfl (c_T_fail (k := 4) (p := p) tp.2.2.1) ?_
            exact Rn.iret rfl rfl ⟨_, _, rfl, (cFL.rfl F I).f1 _, rfl, rfl⟩
          obtain ⟨rfl, rfl⟩ := hc_.1 hok
          rw [hld, gLw_k hw6 hok hpos]
          clear hc_
          refine Rn.ifc_ne (pc1 := 62) (pc2 := 56) rfl rfl rfl (fun h53 => ?_) (fun h53 => absurd h53 (fun z => absurd z (by decide)))
          refine Rn.step (pc' := 63) rfl rfl ?_
          refine Rn.callV (pc' := 66) rfl (by decide) (by omega) rfl rfl rfl (c_T_next (n := n) (q := tkE T n p) (by omega) (by exact tp.1) h4 (by exact tp.2.2.2.1) (tkE_le hp)) (fun r_ m_ hc_ => ?_)
          obtain ⟨rfl, f1, rfl, e3, _⟩ := hc_
          have t2 : TP f1 T n (nxE T n p) := by rw [hI] at e3; exact e3
          refine Rn.step (pc' := 67) rfl rfl ?_
          refine Rn.step (pc' := 68) rfl rfl ?_
          refine Rn.step (pc' := 69) rfl rfl ?_
          refine Rn.callV (pc' := 72) rfl (by decide) (by omega) rfl rfl rfl (c_L_cl (p := nxE T n p) (by omega) hI t2 (nx_le hp) h4 hv hq hw6 hok) (fun r_ m_ hc_ => ?_)
          obtain ⟨F2, I2, rfl, hF2, hg⟩ := hc_
          have hF3 : cFL F I F2 I2 := ((cFL.rfl F I).f1 f1).trans hF2
          cases hX : gLk T n w (nxE T n p, q) with
          | inl e =>
            rw [hX] at hg
            obtain ⟨rfl, g1⟩ := hg
            refine Rn.ifc_ne (pc1 := 77) (pc2 := 75) rfl rfl rfl (fun h36 => absurd rfl h36) (fun h36 => ?_)
            refine Rn.iconst (v := 0) (pc' := 76) rfl (by decide) rfl ?_
            exact Rn.iret rfl rfl ⟨_, _, rfl, hF3, rfl, g1⟩
          | inr z =>
            rw [hX] at hg
            obtain ⟨rfl, t3, hq3⟩ := hg
            refine Rn.ifc_ne (pc1 := 77) (pc2 := 75) rfl rfl rfl (fun h36 => ?_) (fun h36 => absurd h36 (by decide))
            obtain ⟨P', B', E', W', hv3, hp3, hz3⟩ := gLw_v hv ((gLw_k hw6 hok hpos).trans hX)
            have hI3 : I2 2 = T := (hF3.2 2 (by omega)).trans hI
            show Rn _ _ _ _ _ _ (gXD m0 F I L R H (gLz T n (gLd T n f (k + 1)) z))
            refine Rn.conseq (l_L77 hd hI3 t3 hz3 h4 hv3 hq3 (fun F9 I9 a1 a2 a3 a4 => ?_)) (fun r_ m_ hg => hg.mono hF3)
            exact l_L_read hd hS f (k + 1) F9 I9 (nxE T n z.1) z.2 _ _ _ _ _ hT a1 a2 (nx_le hz3) hv3 a3 (by omega) (Or.inr ⟨by omega, by rw [hv3.1.1]; exact (nI_ltI (a := 0) (b := P') (by omega) (by have := hv3.1.2.2; omega)).mpr (by omega)⟩)
    · rw [show gLd T n (f + 1) k (p, q) = .inl (1 + 8 * p + 0) by show gBx (gLc T n k (p, q)) _ = _; rw [show gLc T n k (p, q) = .inl (1 + 8 * p + 0) from if_pos (Int32.not_le.mp h24)]; rfl]
      refine Rn.step (pc' := 28) rfl rfl ?_
      refine Rn.iconst (v := 0) (pc' := 29) rfl (by decide) rfl ?_
      refine Rn.vi (pc' := 32) rfl (by decide) (by omega) rfl rfl rfl (c_T_fail (k := 0) (p := p) tp.2.2.1) ?_
      exact Rn.iret rfl (rfl) (⟨_, _, rfl, (cFL.rfl F I).f1 _, rfl, rfl⟩)
end V5
end NH2
