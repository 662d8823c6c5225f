/-! THE CLASS: feed, end, force, seed, print. -/
section CS
variable {m0 : xM} {F I : Nat → Nat → Int32} {L : Nat → Nat → Int64} {R : Nat → Nat → Option Nat} {H : Value} {s w : Nat → Int32} {o : Nat} {gg : Prop}
theorem c_T_add {d n : Nat} (hn : F 1 1 = nI n) (h4 : n + 4 ≤ 400) (x : Int32) : Cl d j_Tape_add [.ref 1, .int x] (CC m0 F I L R H) (Pv (CC m0 (va_up F 1 (upd (F 1) 1 (nI (n + 4)))) (va_up I 2 (fr (I 2) n x)) L R H)) := by
  show Rn d j_Tape_add 0 _ _ _ _
  refine Rn.iconst (v := 24) (pc' := 2) rfl (by decide) rfl ?_
  refine Rn.step (pc' := 3) rfl rfl ?_
  refine Rn.step (pc' := 4) rfl rfl ?_
  refine Rn.ifc_lt (pc1 := 46) (pc2 := 7) rfl rfl rfl (fun h4 => absurd h4 (show ¬ (24 : Int32) < 0 from by decide)) (fun h4 => ?_)
  refine Rn.step (pc' := 8) rfl rfl ?_
  refine Rn.getf (pc' := 11) rfl rfl rfl rfl rfl ?_
  refine Rn.iconst (v := 400) (pc' := 14) rfl (by decide) rfl ?_
  refine Rn.icmp_ge (pc1 := 40) (pc2 := 17) rfl rfl rfl (fun h14 => absurd h14 (by rw [show F 1 1 = nI (n + 0) from hn]; exact fun z => absurd ((nI_leI (a := 400) (b := n + 0) (by omega) (by omega)).mp z) (by omega))) (fun h14 => ?_)
  refine Rn.step (pc' := 18) rfl rfl ?_
  refine Rn.getf (pc' := 21) rfl rfl rfl rfl rfl ?_
  refine Rn.step (pc' := 22) rfl rfl ?_
  refine Rn.getf (pc' := 25) rfl rfl rfl rfl rfl ?_
  refine Rn.step (pc' := 26) rfl rfl ?_
  refine Rn.step (pc' := 27) rfl rfl ?_
  refine Rn.ishr (pc' := 28) rfl rfl ?_
  refine Rn.i2b (pc' := 29) rfl rfl ?_
  refine Rn.cbst (k := n + 0) (pc' := 30) rfl rfl (show F 1 1 = nI (n + 0) from hn) (by omega) (by decide) rfl ?_
  refine Rn.step (pc' := 31) rfl rfl ?_
  refine Rn.step (pc' := 32) rfl rfl ?_
  refine Rn.getf (pc' := 35) rfl rfl rfl rfl rfl ?_
  refine Rn.iconst (v := 1) (pc' := 36) rfl (by decide) rfl ?_
  refine Rn.iadd (pc' := 37) rfl rfl ?_
  refine Rn.cput (pc' := 40) rfl rfl rfl rfl rfl (by decide) rfl ?_
  refine Rn.step (pc' := 43) rfl rfl ?_
  refine Rn.step (pc' := 3) rfl rfl ?_
  refine Rn.ls3 (b0 := .ref 1) (b1 := .int x) (b2 := .int (16)) rfl rfl (congrArg Value.int (by decide)) ?_
  refine Rn.mm (m2 := CC m0 (va_up F 1 (upd (F 1) 1 (nI (n + 1)))) (va_up I 2 (F1 (I 2) n x)) L R H) ?_ ?_
  · rw [hn, nI_1]
    rfl
  refine Rn.step (pc' := 4) rfl rfl ?_
  refine Rn.ifc_lt (pc1 := 46) (pc2 := 7) rfl rfl rfl (fun h4 => absurd h4 (show ¬ (16 : Int32) < 0 from by decide)) (fun h4 => ?_)
  refine Rn.step (pc' := 8) rfl rfl ?_
  refine Rn.getf (pc' := 11) rfl rfl rfl rfl rfl ?_
  refine Rn.iconst (v := 400) (pc' := 14) rfl (by decide) rfl ?_
  refine Rn.icmp_ge (pc1 := 40) (pc2 := 17) rfl rfl rfl (fun h14 => absurd h14 (by rw [show (va_up F 1 (upd (F 1) 1 (nI (n + 1)))) 1 1 = nI (n + 1) from rfl]; exact fun z => absurd ((nI_leI (a := 400) (b := n + 1) (by omega) (by omega)).mp z) (by omega))) (fun h14 => ?_)
  refine Rn.step (pc' := 18) rfl rfl ?_
  refine Rn.getf (pc' := 21) rfl rfl rfl rfl rfl ?_
  refine Rn.step (pc' := 22) rfl rfl ?_
  refine Rn.getf (pc' := 25) rfl rfl rfl rfl rfl ?_
  refine Rn.step (pc' := 26) rfl rfl ?_
  refine Rn.step (pc' := 27) rfl rfl ?_
  refine Rn.ishr (pc' := 28) rfl rfl ?_
  refine Rn.i2b (pc' := 29) rfl rfl ?_
  refine Rn.cbst (k := n + 1) (pc' := 30) rfl rfl (show (va_up F 1 (upd (F 1) 1 (nI (n + 1)))) 1 1 = nI (n + 1) from rfl) (by omega) (by decide) rfl ?_
  refine Rn.step (pc' := 31) rfl rfl ?_
  refine Rn.step (pc' := 32) rfl rfl ?_
  refine Rn.getf (pc' := 35) rfl rfl rfl rfl rfl ?_
  refine Rn.iconst (v := 1) (pc' := 36) rfl (by decide) rfl ?_
  refine Rn.iadd (pc' := 37) rfl rfl ?_
  refine Rn.cput (pc' := 40) rfl rfl rfl rfl rfl (by decide) rfl ?_
  refine Rn.step (pc' := 43) rfl rfl ?_
  refine Rn.step (pc' := 3) rfl rfl ?_
  refine Rn.ls3 (b0 := .ref 1) (b1 := .int x) (b2 := .int (8)) rfl rfl (congrArg Value.int (by decide)) ?_
  refine Rn.mm (m2 := CC m0 (va_up F 1 (upd (F 1) 1 (nI (n + 2)))) (va_up I 2 (F2 (I 2) n x)) L R H) ?_ ?_
  · rw [show va_up F 1 (upd (F 1) 1 (nI (n + 1))) 1 1 = nI (n + 1) from rfl, nI_1, va_up_self, upd_u, up_up, va_up_self, up_up]
    rfl
  refine Rn.step (pc' := 4) rfl rfl ?_
  refine Rn.ifc_lt (pc1 := 46) (pc2 := 7) rfl rfl rfl (fun h4 => absurd h4 (show ¬ (8 : Int32) < 0 from by decide)) (fun h4 => ?_)
  refine Rn.step (pc' := 8) rfl rfl ?_
  refine Rn.getf (pc' := 11) rfl rfl rfl rfl rfl ?_
  refine Rn.iconst (v := 400) (pc' := 14) rfl (by decide) rfl ?_
  refine Rn.icmp_ge (pc1 := 40) (pc2 := 17) rfl rfl rfl (fun h14 => absurd h14 (by rw [show (va_up F 1 (upd (F 1) 1 (nI (n + 2)))) 1 1 = nI (n + 2) from rfl]; exact fun z => absurd ((nI_leI (a := 400) (b := n + 2) (by omega) (by omega)).mp z) (by omega))) (fun h14 => ?_)
  refine Rn.step (pc' := 18) rfl rfl ?_
  refine Rn.getf (pc' := 21) rfl rfl rfl rfl rfl ?_
  refine Rn.step (pc' := 22) rfl rfl ?_
  refine Rn.getf (pc' := 25) rfl rfl rfl rfl rfl ?_
  refine Rn.step (pc' := 26) rfl rfl ?_
  refine Rn.step (pc' := 27) rfl rfl ?_
  refine Rn.ishr (pc' := 28) rfl rfl ?_
  refine Rn.i2b (pc' := 29) rfl rfl ?_
  refine Rn.cbst (k := n + 2) (pc' := 30) rfl rfl (show (va_up F 1 (upd (F 1) 1 (nI (n + 2)))) 1 1 = nI (n + 2) from rfl) (by omega) (by decide) rfl ?_
  refine Rn.step (pc' := 31) rfl rfl ?_
  refine Rn.step (pc' := 32) rfl rfl ?_
  refine Rn.getf (pc' := 35) rfl rfl rfl rfl rfl ?_
  refine Rn.iconst (v := 1) (pc' := 36) rfl (by decide) rfl ?_
  refine Rn.iadd (pc' := 37) rfl rfl ?_
  refine Rn.cput (pc' := 40) rfl rfl rfl rfl rfl (by decide) rfl ?_
  refine Rn.step (pc' := 43) rfl rfl ?_
  refine Rn.step (pc' := 3) rfl rfl ?_
  refine Rn.ls3 (b0 := .ref 1) (b1 := .int x) (b2 := .int (0)) rfl rfl (congrArg Value.int (by decide)) ?_
  refine Rn.mm (m2 := CC m0 (va_up F 1 (upd (F 1) 1 (nI (n + 3)))) (va_up I 2 (F3 (I 2) n x)) L R H) ?_ ?_
  · rw [show va_up F 1 (upd (F 1) 1 (nI (n + 2))) 1 1 = nI (n + 2) from rfl, nI_1, va_up_self, upd_u, up_up, va_up_self, up_up]
    rfl
  refine Rn.step (pc' := 4) rfl rfl ?_
  refine Rn.ifc_lt (pc1 := 46) (pc2 := 7) rfl rfl rfl (fun h4 => absurd h4 (show ¬ (0 : Int32) < 0 from by decide)) (fun h4 => ?_)
  refine Rn.step (pc' := 8) rfl rfl ?_
  refine Rn.getf (pc' := 11) rfl rfl rfl rfl rfl ?_
  refine Rn.iconst (v := 400) (pc' := 14) rfl (by decide) rfl ?_
  refine Rn.icmp_ge (pc1 := 40) (pc2 := 17) rfl rfl rfl (fun h14 => absurd h14 (by rw [show (va_up F 1 (upd (F 1) 1 (nI (n + 3)))) 1 1 = nI (n + 3) from rfl]; exact fun z => absurd ((nI_leI (a := 400) (b := n + 3) (by omega) (by omega)).mp z) (by omega))) (fun h14 => ?_)
  refine Rn.step (pc' := 18) rfl rfl ?_
  refine Rn.getf (pc' := 21) rfl rfl rfl rfl rfl ?_
  refine Rn.step (pc' := 22) rfl rfl ?_
  refine Rn.getf (pc' := 25) rfl rfl rfl rfl rfl ?_
  refine Rn.step (pc' := 26) rfl rfl ?_
  refine Rn.step (pc' := 27) rfl rfl ?_
  refine Rn.ishr (pc' := 28) rfl rfl ?_
  refine Rn.i2b (pc' := 29) rfl rfl ?_
  refine Rn.cbst (k := n + 3) (pc' := 30) rfl rfl (show (va_up F 1 (upd (F 1) 1 (nI (n + 3)))) 1 1 = nI (n + 3) from rfl) (by omega) (by decide) rfl ?_
  refine Rn.step (pc' := 31) rfl rfl ?_
  refine Rn.step (pc' := 32) rfl rfl ?_
  refine Rn.getf (pc' := 35) rfl rfl rfl rfl rfl ?_
  refine Rn.iconst (v := 1) (pc' := 36) rfl (by decide) rfl ?_
  refine Rn.iadd (pc' := 37) rfl rfl ?_
  refine Rn.cput (pc' := 40) rfl rfl rfl rfl rfl (by decide) rfl ?_
  refine Rn.step (pc' := 43) rfl rfl ?_
  refine Rn.step (pc' := 3) rfl rfl ?_
  refine Rn.ls3 (b0 := .ref 1) (b1 := .int x) (b2 := .int (-8)) rfl rfl (congrArg Value.int (by decide)) ?_
  refine Rn.mm (m2 := CC m0 (va_up F 1 (upd (F 1) 1 (nI (n + 4)))) (va_up I 2 (F4 (I 2) n x)) L R H) ?_ ?_
  · rw [show va_up F 1 (upd (F 1) 1 (nI (n + 3))) 1 1 = nI (n + 3) from rfl, nI_1, va_up_self, upd_u, up_up, va_up_self, up_up]
    rfl
  refine Rn.step (pc' := 4) rfl rfl ?_
  refine Rn.ifc_lt (pc1 := 46) (pc2 := 7) rfl rfl rfl (fun h4 => ?_) (fun h4 => absurd (show (-8 : Int32) < 0 from by decide) h4)
  exact Rn.vret rfl (⟨rfl, rfl⟩)
set_option maxHeartbeats 4000000 in
theorem c_O_feed {d n : Nat} (hd : 1 ≤ d) (hn : F 1 1 = nI n) (h4 : n ≤ 400) (a b c e f : Int32) : Cl d j_O_feed [.ref 0, .int a, .int b, .int c, .int e, .int f] (CC m0 F I L R H) (fun r m2 => (380 < n → r = some (.int (-1)) ∧ m2 = (CC m0 F I L R H)) ∧ (¬ 380 < n → r = some (.int (nI (n + 20))) ∧ m2 = CC m0 (va_up F 1 (upd (F 1) 1 (nI (n + 20)))) (va_up I 2 (fd5 (I 2) n a b c e f)) L R H)) := by
  show Rn d j_O_feed 0 _ _ _ _
  refine Rn.step (pc' := 1) rfl rfl ?_
  refine Rn.getf (pc' := 4) rfl rfl rfl rfl rfl ?_
  refine Rn.getf (pc' := 7) rfl rfl rfl rfl rfl ?_
  refine Rn.iconst (v := 20) (pc' := 9) rfl (by decide) rfl ?_
  refine Rn.iadd (pc' := 10) rfl rfl ?_
  refine Rn.iconst (v := 400) (pc' := 13) rfl (by decide) rfl ?_
  refine Rn.icmp_le (pc1 := 18) (pc2 := 16) rfl rfl rfl (fun h13 => ?_) (fun h13 => ?_)
  · have h20 : n + 20 ≤ 400 := by
      rw [hn] at h13
      have := (nI_leI (a := n + 20) (b := 400) (by omega) (by omega)).mp (by rw [← nI_add]; exact h13)
      omega
    refine Rn.step (pc' := 19) rfl rfl ?_
    refine Rn.getf (pc' := 22) rfl rfl rfl rfl rfl ?_
    refine Rn.step (pc' := 23) rfl rfl ?_
    refine Rn.vv (pc' := 26) rfl (by decide) (by omega) rfl rfl rfl (c_T_add hn (by omega) a) ?_
    refine Rn.step (pc' := 27) rfl rfl ?_
    refine Rn.getf (pc' := 30) rfl rfl rfl rfl rfl ?_
    refine Rn.step (pc' := 31) rfl rfl ?_
    refine Rn.vv (pc' := 34) rfl (by decide) (by omega) rfl rfl rfl (c_T_add (n := n + 4) rfl (by omega) b) ?_
    refine Rn.mm (m2 := CC m0 (va_up F 1 (upd (F 1) 1 (nI (n + 8)))) (va_up I 2 (fr (fr ((I 2)) n a) (n + 4) b)) L R H) (by rw [va_up_self, upd_u, up_up, va_up_self, up_up]) ?_
    refine Rn.step (pc' := 35) rfl rfl ?_
    refine Rn.getf (pc' := 38) rfl rfl rfl rfl rfl ?_
    refine Rn.step (pc' := 39) rfl rfl ?_
    refine Rn.vv (pc' := 42) rfl (by decide) (by omega) rfl rfl rfl (c_T_add (n := n + 8) rfl (by omega) c) ?_
    refine Rn.mm (m2 := CC m0 (va_up F 1 (upd (F 1) 1 (nI (n + 12)))) (va_up I 2 (fr (fr (fr ((I 2)) n a) (n + 4) b) (n + 8) c)) L R H) (by rw [va_up_self, upd_u, up_up, va_up_self, up_up]) ?_
    refine Rn.step (pc' := 43) rfl rfl ?_
    refine Rn.getf (pc' := 46) rfl rfl rfl rfl rfl ?_
    refine Rn.step (pc' := 48) rfl rfl ?_
    refine Rn.vv (pc' := 51) rfl (by decide) (by omega) rfl rfl rfl (c_T_add (n := n + 12) rfl (by omega) e) ?_
    refine Rn.mm (m2 := CC m0 (va_up F 1 (upd (F 1) 1 (nI (n + 16)))) (va_up I 2 (fr (fr (fr (fr ((I 2)) n a) (n + 4) b) (n + 8) c) (n + 12) e)) L R H) (by rw [va_up_self, upd_u, up_up, va_up_self, up_up]) ?_
    refine Rn.step (pc' := 52) rfl rfl ?_
    refine Rn.getf (pc' := 55) rfl rfl rfl rfl rfl ?_
    refine Rn.step (pc' := 57) rfl rfl ?_
    refine Rn.vv (pc' := 60) rfl (by decide) (by omega) rfl rfl rfl (c_T_add (n := n + 16) rfl (by omega) f) ?_
    refine Rn.mm (m2 := CC m0 (va_up F 1 (upd (F 1) 1 (nI (n + 20)))) (va_up I 2 (fr (fr (fr (fr (fr ((I 2)) n a) (n + 4) b) (n + 8) c) (n + 12) e) (n + 16) f)) L R H) (by rw [va_up_self, upd_u, up_up, va_up_self, up_up]) ?_
    refine Rn.step (pc' := 61) rfl rfl ?_
    refine Rn.getf (pc' := 64) rfl rfl rfl rfl rfl ?_
    refine Rn.getf (pc' := 67) rfl rfl rfl rfl rfl ?_
    exact Rn.iret rfl (rfl) (⟨fun hg => absurd hg (by omega), fun _ => ⟨rfl, rfl⟩⟩)
  · refine Rn.iconst (v := (-1)) (pc' := 17) rfl (by decide) rfl ?_
    exact Rn.iret rfl (rfl) (⟨fun _ => ⟨rfl, rfl⟩, fun hg => absurd (by
        have := Int32.not_le.mp h13
        rw [hn] at this
        have := (nI_ltI (a := 400) (b := n + 20) (by omega) (by omega)).mp (by rw [← nI_add]; exact this)
        omega) hg⟩)
theorem c_O_end {d n : Nat} (hn : F 1 1 = nI n) (x : Int32) : Cl d j_O_end [.ref 0, .int x] (CC m0 F I L R H) (fun r m2 => (gEn x n → r = some (.int (-1)) ∧ m2 = (CC m0 F I L R H)) ∧ (¬ gEn x n → r = some (.int x) ∧ m2 = CC m0 (va_up F 1 (upd (F 1) 1 x)) I L R H)) := by
  show Rn d j_O_end 0 _ _ _ _
  refine Rn.step (pc' := 1) rfl rfl ?_
  refine Rn.ifc_lt (pc1 := 15) (pc2 := 4) rfl rfl rfl (fun h1 => ?_) (fun h1 => ?_)
  · refine Rn.iconst (v := (-1)) (pc' := 16) rfl (by decide) rfl ?_
    exact Rn.iret rfl (rfl) (⟨fun _ => ⟨rfl, rfl⟩, fun hg => absurd (Or.inl h1) hg⟩)
  · refine Rn.step (pc' := 5) rfl rfl ?_
    refine Rn.step (pc' := 6) rfl rfl ?_
    refine Rn.getf (pc' := 9) rfl rfl rfl rfl rfl ?_
    refine Rn.getf (pc' := 12) rfl rfl rfl rfl rfl ?_
    refine Rn.icmp_le (pc1 := 17) (pc2 := 15) rfl rfl rfl (fun h12 => ?_) (fun h12 => ?_)
    · refine Rn.step (pc' := 18) rfl rfl ?_
      refine Rn.getf (pc' := 21) rfl rfl rfl rfl rfl ?_
      refine Rn.step (pc' := 22) rfl rfl ?_
      refine Rn.cput (pc' := 25) rfl rfl rfl rfl rfl (by decide) rfl ?_
      refine Rn.step (pc' := 26) rfl rfl ?_
      exact Rn.iret rfl (rfl) (⟨fun hg => absurd hg (fun z => z.elim h1 (fun c => absurd h12 (Int32.not_le.mpr (by rw [hn]; exact c)))), fun _ => ⟨rfl, rfl⟩⟩)
    · refine Rn.iconst (v := (-1)) (pc' := 16) rfl (by decide) rfl ?_
      exact Rn.iret rfl (rfl) (⟨fun _ => ⟨rfl, rfl⟩, fun hg => absurd (Or.inr (by rw [← hn]; exact Int32.not_le.mp h12)) hg⟩)
theorem gFo_c {x : Int32} {r : Nat} (hr : r ≤ 6) : (x < -1 ∨ nI r ≤ x) ↔ gFo x (nI r) := by
  have h0 : (0 : Int32).toInt = 0 := by decide
  have h1 : (-1 : Int32).toInt = -1 := by decide
  have h2 : (nI r).toInt = r := nI_toInt (by omega)
  have h3 : x = -1 ↔ x.toInt = -1 := by rw [← h1]; exact Int32.toInt_inj.symm
  unfold gFo
  rw [h3, Int32.lt_iff_toInt_lt, Int32.lt_iff_toInt_lt, Int32.le_iff_toInt_le, h0, h1, h2]
  omega
theorem c_O_force {d rn : Nat} (hr : F 0 12 = nI rn) (h6 : rn ≤ 6) (x : Int32) : Cl d j_O_force [.ref 0, .int x] (CC m0 F I L R H) (fun r m2 => (gFo x (nI rn) → r = some (.int (-2)) ∧ m2 = (CC m0 F I L R H)) ∧ (¬ gFo x (nI rn) → r = some (.int (F 0 13)) ∧ m2 = CC m0 (va_up F 0 (upd (F 0) 13 x)) I L R H)) := by
  show Rn d j_O_force 0 _ _ _ _
  refine Rn.step (pc' := 1) rfl rfl ?_
  refine Rn.iconst (v := (-1)) (pc' := 2) rfl (by decide) rfl ?_
  refine Rn.icmp_lt (pc1 := 13) (pc2 := 5) rfl rfl rfl (fun h2 => ?_) (fun h2 => ?_)
  · refine Rn.iconst (v := (-2)) (pc' := 15) rfl (by decide) rfl ?_
    exact Rn.iret rfl (rfl) (⟨fun _ => ⟨rfl, rfl⟩, fun hg => absurd ((gFo_c h6).mp (Or.inl h2)) hg⟩)
  · refine Rn.step (pc' := 6) rfl rfl ?_
    refine Rn.step (pc' := 7) rfl rfl ?_
    refine Rn.getf (pc' := 10) rfl rfl rfl rfl rfl ?_
    refine Rn.icmp_lt (pc1 := 16) (pc2 := 13) rfl rfl rfl (fun h10 => ?_) (fun h10 => ?_)
    · refine Rn.step (pc' := 17) rfl rfl ?_
      refine Rn.getf (pc' := 20) rfl rfl rfl rfl rfl ?_
      refine Rn.step (pc' := 21) rfl rfl ?_
      refine Rn.step (pc' := 22) rfl rfl ?_
      refine Rn.step (pc' := 23) rfl rfl ?_
      refine Rn.cput (pc' := 26) rfl rfl rfl rfl rfl (by decide) rfl ?_
      refine Rn.step (pc' := 27) rfl rfl ?_
      exact Rn.iret rfl (rfl) (⟨fun hg => absurd ((gFo_c h6).mpr hg) (fun z => z.elim h2 (fun c => absurd h10 (Int32.not_lt.mpr (by rw [hr]; exact c)))), fun _ => ⟨rfl, rfl⟩⟩)
    · refine Rn.iconst (v := (-2)) (pc' := 15) rfl (by decide) rfl ?_
      exact Rn.iret rfl (rfl) (⟨fun _ => ⟨rfl, rfl⟩, fun hg => absurd ((gFo_c h6).mp (Or.inr (by rw [← hr]; exact Int32.not_lt.mp h10))) hg⟩)
theorem c_O_seed {d : Nat} (x : Int32) : Cl d j_O_seed [.ref 0, .int x] (CC m0 F I L R H) (fun r m2 => (x < 0 → r = some (.int (-1)) ∧ m2 = (CC m0 F I L R H)) ∧ (¬ x < 0 → r = some (.int (F 0 14)) ∧ m2 = CC m0 (va_up F 0 (upd (F 0) 14 x)) I L R H)) := by
  show Rn d j_O_seed 0 _ _ _ _
  refine Rn.step (pc' := 1) rfl rfl ?_
  refine Rn.ifc_ge (pc1 := 6) (pc2 := 4) rfl rfl rfl (fun h1 => ?_) (fun h1 => ?_)
  · refine Rn.step (pc' := 7) rfl rfl ?_
    refine Rn.getf (pc' := 10) rfl rfl rfl rfl rfl ?_
    refine Rn.step (pc' := 11) rfl rfl ?_
    refine Rn.step (pc' := 12) rfl rfl ?_
    refine Rn.step (pc' := 13) rfl rfl ?_
    refine Rn.cput (pc' := 16) rfl rfl rfl rfl rfl (by decide) rfl ?_
    refine Rn.step (pc' := 17) rfl rfl ?_
    exact Rn.iret rfl (rfl) (⟨fun hg => absurd hg (Int32.not_lt.mpr h1), fun _ => ⟨rfl, rfl⟩⟩)
  · refine Rn.iconst (v := (-1)) (pc' := 5) rfl (by decide) rfl ?_
    exact Rn.iret rfl (rfl) (⟨fun _ => ⟨rfl, rfl⟩, fun hg => absurd (Int32.not_le.mp h1) hg⟩)
def prR (r : Nat → Int32) (K : Nat) (n p b z : Int32) : Nat → Int32 := upd (upd (upd (upd r (4 * K) n) (4 * K + 1) p) (4 * K + 2) b) (4 * K + 3) (if z = 0 then 0 else 1)
theorem c_P_add {d K : Nat} (hK : F 12 1 = nI K) (h10 : K < 10) (n p b z : Int32) : Cl d j_Prints_add [.ref 12, .int n, .int p, .int b, .int z] (CC m0 F I L R H) (Pv (CC m0 (va_up F 12 (upd (F 12) 1 (nI (K + 1)))) (va_up I 13 (prR (I 13) K n p b z)) L R H)) := by
  show Rn d j_Prints_add 0 _ _ _ _
  refine Rn.step (pc' := 1) rfl rfl ?_
  refine Rn.getf (pc' := 4) rfl rfl rfl rfl rfl ?_
  refine Rn.iconst (v := 10) (pc' := 6) rfl (by decide) rfl ?_
  refine Rn.icmp_ge (pc1 := 82) (pc2 := 9) rfl rfl rfl (fun h6 => absurd h6 (by rw [hK]; exact fun z => absurd ((nI_leI (a := 10) (b := K) (by omega) (by omega)).mp z) (by omega))) (fun h6 => ?_)
  refine Rn.step (pc' := 10) rfl rfl ?_
  refine Rn.getf (pc' := 13) rfl rfl rfl rfl rfl ?_
  refine Rn.iconst (v := 4) (pc' := 14) rfl (by decide) rfl ?_
  refine Rn.step (pc' := 15) rfl rfl ?_
  refine Rn.getf (pc' := 18) rfl rfl rfl rfl rfl ?_
  refine Rn.imul (pc' := 19) rfl rfl ?_
  refine Rn.step (pc' := 20) rfl rfl ?_
  refine Rn.cast (k := 4 * K) (pc' := 21) rfl rfl (by rw [hK]; simp only [nI_lit, nI_add, pk_mul]) (by omega) (by decide) rfl ?_
  refine Rn.step (pc' := 22) rfl rfl ?_
  refine Rn.getf (pc' := 25) rfl rfl rfl rfl rfl ?_
  refine Rn.iconst (v := 4) (pc' := 26) rfl (by decide) rfl ?_
  refine Rn.step (pc' := 27) rfl rfl ?_
  refine Rn.getf (pc' := 30) rfl rfl rfl rfl rfl ?_
  refine Rn.imul (pc' := 31) rfl rfl ?_
  refine Rn.iconst (v := 1) (pc' := 32) rfl (by decide) rfl ?_
  refine Rn.iadd (pc' := 33) rfl rfl ?_
  refine Rn.step (pc' := 34) rfl rfl ?_
  refine Rn.cast (k := 4 * K + 1) (pc' := 35) rfl rfl (by rw [hK]; simp only [nI_lit, nI_add, pk_mul]) (by omega) (by decide) rfl ?_
  refine Rn.step (pc' := 36) rfl rfl ?_
  refine Rn.getf (pc' := 39) rfl rfl rfl rfl rfl ?_
  refine Rn.iconst (v := 4) (pc' := 40) rfl (by decide) rfl ?_
  refine Rn.step (pc' := 41) rfl rfl ?_
  refine Rn.getf (pc' := 44) rfl rfl rfl rfl rfl ?_
  refine Rn.imul (pc' := 45) rfl rfl ?_
  refine Rn.iconst (v := 2) (pc' := 46) rfl (by decide) rfl ?_
  refine Rn.iadd (pc' := 47) rfl rfl ?_
  refine Rn.step (pc' := 48) rfl rfl ?_
  refine Rn.cast (k := 4 * K + 2) (pc' := 49) rfl rfl (by rw [hK]; simp only [nI_lit, nI_add, pk_mul]) (by omega) (by decide) rfl ?_
  refine Rn.step (pc' := 50) rfl rfl ?_
  refine Rn.getf (pc' := 53) rfl rfl rfl rfl rfl ?_
  refine Rn.iconst (v := 4) (pc' := 54) rfl (by decide) rfl ?_
  refine Rn.step (pc' := 55) rfl rfl ?_
  refine Rn.getf (pc' := 58) rfl rfl rfl rfl rfl ?_
  refine Rn.imul (pc' := 59) rfl rfl ?_
  refine Rn.iconst (v := 3) (pc' := 60) rfl (by decide) rfl ?_
  refine Rn.iadd (pc' := 61) rfl rfl ?_
  refine Rn.step (pc' := 63) rfl rfl ?_
  refine Rn.ifc_eq (pc1 := 70) (pc2 := 66) rfl rfl rfl (fun h63 => ?_) (fun h63 => ?_)
  · refine Rn.iconst (v := 0) (pc' := 71) rfl (by decide) rfl ?_
    refine Rn.cast (k := 4 * K + 3) (pc' := 72) rfl rfl (by rw [hK]; simp only [nI_lit, nI_add, pk_mul]) (by omega) (by decide) rfl ?_
    refine Rn.step (pc' := 73) rfl rfl ?_
    refine Rn.step (pc' := 74) rfl rfl ?_
    refine Rn.getf (pc' := 77) rfl rfl rfl rfl rfl ?_
    refine Rn.iconst (v := 1) (pc' := 78) rfl (by decide) rfl ?_
    refine Rn.iadd (pc' := 79) rfl rfl ?_
    refine Rn.cput (pc' := 82) rfl rfl rfl rfl rfl (by decide) rfl ?_
    exact Rn.vret rfl (⟨rfl, by
        rw [hK, nI_1, va_up_self, va_up_self, va_up_self, up_up, up_up, up_up]
        unfold prR
        rw [if_pos h63]⟩)
  · refine Rn.iconst (v := 1) (pc' := 67) rfl (by decide) rfl ?_
    refine Rn.step (pc' := 71) rfl rfl ?_
    refine Rn.cast (k := 4 * K + 3) (pc' := 72) rfl rfl (by rw [hK]; simp only [nI_lit, nI_add, pk_mul]) (by omega) (by decide) rfl ?_
    refine Rn.step (pc' := 73) rfl rfl ?_
    refine Rn.step (pc' := 74) rfl rfl ?_
    refine Rn.getf (pc' := 77) rfl rfl rfl rfl rfl ?_
    refine Rn.iconst (v := 1) (pc' := 78) rfl (by decide) rfl ?_
    refine Rn.iadd (pc' := 79) rfl rfl ?_
    refine Rn.cput (pc' := 82) rfl rfl rfl rfl rfl (by decide) rfl ?_
    exact Rn.vret rfl (⟨rfl, by
        rw [hK, nI_1, va_up_self, va_up_self, va_up_self, up_up, up_up, up_up]
        unfold prR
        rw [if_neg h63]⟩)
theorem PR.add {K : Nat} {s f r : Nat → Int32} (h : PR K s f r) (hK : K < 10) {n p b z : Int32} (hn : 0 ≤ n ∧ n ≤ 47) : PR (K + 1) (prS s K n p b z) (upd f 1 (nI (K + 1))) (prR r K n p b z) := by
  have e150 : prS s K n p b z 150 = nI (K + 1) := by unfold prS; rw [upd_s]
  have e0 : ∀ i, i < 4 * K → prS s K n p b z (110 + i) = s (110 + i) := fun i hi => by
    unfold prS
    rw [upd_n _ _ (by omega), upd_n _ _ (by omega), upd_n _ _ (by omega), upd_n _ _ (by omega), upd_n _ _ (by omega)]
  have a0 : prS s K n p b z (110 + 4 * K) = n := by
    unfold prS
    rw [upd_n _ _ (by omega), upd_n _ _ (by omega), upd_n _ _ (by omega), upd_n _ _ (by omega), upd_s]
  have a1 : prS s K n p b z (110 + 4 * K + 1) = p := by
    unfold prS
    rw [upd_n _ _ (by omega), upd_n _ _ (by omega), upd_n _ _ (by omega), upd_s]
  have a2 : prS s K n p b z (110 + 4 * K + 2) = b := by
    unfold prS
    rw [upd_n _ _ (by omega), upd_n _ _ (by omega), upd_s]
  have a3 : prS s K n p b z (110 + 4 * K + 3) = if z = 0 then 0 else 1 := by
    unfold prS
    rw [upd_n _ _ (by omega), upd_s]
  refine ⟨e150, by omega, by rw [e150, upd_s], fun i hi => ?_, fun k hk => ?_, fun k hk => ?_⟩
  · by_cases c : i < 4 * K
    · rw [e0 i c]
      unfold prR
      rw [upd_n _ _ (by omega), upd_n _ _ (by omega), upd_n _ _ (by omega), upd_n _ _ (by omega)]
      exact h.r i c
    · have : i = 4 * K ∨ i = 4 * K + 1 ∨ i = 4 * K + 2 ∨ i = 4 * K + 3 := by omega
      rcases this with rfl | rfl | rfl | rfl
      · rw [a0]
        unfold prR
        rw [upd_n _ _ (by omega), upd_n _ _ (by omega), upd_n _ _ (by omega), upd_s]
      · rw [show 110 + (4 * K + 1) = 110 + 4 * K + 1 from rfl, a1]
        unfold prR
        rw [upd_n _ _ (by omega), upd_n _ _ (by omega), upd_s]
      · rw [show 110 + (4 * K + 2) = 110 + 4 * K + 2 from rfl, a2]
        unfold prR
        rw [upd_n _ _ (by omega), upd_s]
      · rw [show 110 + (4 * K + 3) = 110 + 4 * K + 3 from rfl, a3]
        unfold prR
        rw [upd_s]
  · by_cases c : k = K
    · subst c
      rw [a0]
      obtain ⟨j, hj, e⟩ := xN (n := 47) (by decide) (by decide) hn
      exact ⟨j, by omega, e⟩
    · rw [e0 (4 * k) (by omega)]
      exact h.h k (by omega)
  · by_cases c : k = K
    · subst c
      rw [a3]
      split
      · exact Or.inl rfl
      · exact Or.inr rfl
    · rw [show 110 + 4 * k + 3 = 110 + (4 * k + 3) from rfl, e0 (4 * k + 3) (by omega)]
      exact h.z k (by omega)
set_option maxHeartbeats 4000000 in
theorem c_O_print {d : Nat} {P Bn Fn Wn K rn : Nat} {fo : Int32} {rl : xRl} (hd : 2 ≤ d) (ob : OB P Bn Fn Wn K rn fo rl s F I R m0) (n p b z : Int32) : Cl d j_O_print [.ref 0, .int n, .int p, .int b, .int z] (CC m0 F I L R H) (fun r m2 => (n = -1 → r = some (.int 0) ∧ m2 = CC m0 (va_up F 12 (upd (F 12) 1 0)) I L R H) ∧ (¬ n = -1 → (gPr s n p b → r = some (.int (-2)) ∧ m2 = (CC m0 F I L R H)) ∧ (¬ gPr s n p b → r = some (.int (nI (K + 1))) ∧ m2 = CC m0 (va_up F 12 (upd (F 12) 1 (nI (K + 1)))) (va_up I 13 (prR (I 13) K n p b z)) L R H ∧ K < 10))) := by
  have h10 := ob.pr.n
  show Rn d j_O_print 0 _ _ _ _
  refine Rn.step (pc' := 1) rfl rfl ?_
  refine Rn.iconst (v := (-1)) (pc' := 2) rfl (by decide) rfl ?_
  refine Rn.icmp_ne (pc1 := 15) (pc2 := 5) rfl rfl rfl (fun h2 => ?_) (fun h2 => ?_)
  · refine Rn.step (pc' := 16) rfl rfl ?_
    refine Rn.si (pc' := 19) rfl (by decide) (by omega) rfl rfl (c_O_isHourOfAll n) ?_
    refine Rn.ifp_eq (pc1 := 43) (pc2 := 22) rfl rfl rfl (fun h19 => ?_) (fun h19 => ?_)
    · refine Rn.iconst (v := 0) (pc' := 44) rfl (by decide) rfl ?_
      refine Rn.step (pc' := 46) rfl rfl ?_
      refine Rn.step (pc' := 48) rfl rfl ?_
      refine Rn.ifc_eq (pc1 := 63) (pc2 := 51) rfl rfl rfl (fun h48 => ?_) (fun h48 => absurd (rfl) h48)
      refine Rn.iconst (v := (-2)) (pc' := 65) rfl (by decide) rfl ?_
      exact Rn.iret rfl (rfl) (⟨fun z => absurd z h2, fun _ => ⟨fun _ => ⟨rfl, rfl⟩, fun hg => absurd (Or.inl h19) hg⟩⟩)
    · refine Rn.step (pc' := 23) rfl rfl ?_
      refine Rn.step (pc' := 24) rfl rfl ?_
      refine Rn.vi (pc' := 27) rfl (by decide) (by omega) rfl rfl rfl (c_O_isPlace ob.lr.p p) ?_
      refine Rn.ifp_eq (pc1 := 43) (pc2 := 30) rfl rfl rfl (fun h27 => ?_) (fun h27 => ?_)
      · refine Rn.iconst (v := 0) (pc' := 44) rfl (by decide) rfl ?_
        refine Rn.step (pc' := 46) rfl rfl ?_
        refine Rn.step (pc' := 48) rfl rfl ?_
        refine Rn.ifc_eq (pc1 := 63) (pc2 := 51) rfl rfl rfl (fun h48 => ?_) (fun h48 => absurd (rfl) h48)
        refine Rn.iconst (v := (-2)) (pc' := 65) rfl (by decide) rfl ?_
        exact Rn.iret rfl (rfl) (⟨fun z => absurd z h2, fun _ => ⟨fun _ => ⟨rfl, rfl⟩, fun hg => absurd (Or.inr (Or.inl h27)) hg⟩⟩)
      · refine Rn.step (pc' := 31) rfl rfl ?_
        refine Rn.ifc_lt (pc1 := 43) (pc2 := 34) rfl rfl rfl (fun h31 => ?_) (fun h31 => ?_)
        · refine Rn.iconst (v := 0) (pc' := 44) rfl (by decide) rfl ?_
          refine Rn.step (pc' := 46) rfl rfl ?_
          refine Rn.step (pc' := 48) rfl rfl ?_
          refine Rn.ifc_eq (pc1 := 63) (pc2 := 51) rfl rfl rfl (fun h48 => ?_) (fun h48 => absurd (rfl) h48)
          refine Rn.iconst (v := (-2)) (pc' := 65) rfl (by decide) rfl ?_
          exact Rn.iret rfl (rfl) (⟨fun z => absurd z h2, fun _ => ⟨fun _ => ⟨rfl, rfl⟩, fun hg => absurd (Or.inr (Or.inr (Or.inl (fun z => absurd h31 (Int32.not_lt.mpr z.1))))) hg⟩⟩)
        · refine Rn.step (pc' := 35) rfl rfl ?_
          refine Rn.iconst (v := 2) (pc' := 36) rfl (by decide) rfl ?_
          refine Rn.icmp_gt (pc1 := 43) (pc2 := 39) rfl rfl rfl (fun h36 => ?_) (fun h36 => ?_)
          · refine Rn.iconst (v := 0) (pc' := 44) rfl (by decide) rfl ?_
            refine Rn.step (pc' := 46) rfl rfl ?_
            refine Rn.step (pc' := 48) rfl rfl ?_
            refine Rn.ifc_eq (pc1 := 63) (pc2 := 51) rfl rfl rfl (fun h48 => ?_) (fun h48 => absurd (rfl) h48)
            refine Rn.iconst (v := (-2)) (pc' := 65) rfl (by decide) rfl ?_
            exact Rn.iret rfl (rfl) (⟨fun z => absurd z h2, fun _ => ⟨fun _ => ⟨rfl, rfl⟩, fun hg => absurd (Or.inr (Or.inr (Or.inl (fun z => absurd h36 (Int32.not_lt.mpr z.2))))) hg⟩⟩)
          · refine Rn.iconst (v := 1) (pc' := 40) rfl (by decide) rfl ?_
            refine Rn.step (pc' := 44) rfl rfl ?_
            refine Rn.step (pc' := 46) rfl rfl ?_
            refine Rn.step (pc' := 48) rfl rfl ?_
            refine Rn.ifc_eq (pc1 := 63) (pc2 := 51) rfl rfl rfl (fun h48 => absurd h48 (by decide)) (fun h48 => ?_)
            refine Rn.step (pc' := 52) rfl rfl ?_
            refine Rn.getf (pc' := 55) rfl rfl rfl rfl rfl ?_
            refine Rn.getf (pc' := 58) rfl rfl rfl rfl rfl ?_
            refine Rn.iconst (v := 10) (pc' := 60) rfl (by decide) rfl ?_
            refine Rn.icmp_lt (pc1 := 66) (pc2 := 63) rfl rfl rfl (fun h60 => ?_) (fun h60 => ?_)
            · have hK : K < 10 := by
                rw [ob.pr.f, ob.pr.k] at h60
                exact (nI_ltI (a := K) (b := 10) (by omega) (by omega)).mp h60
              refine Rn.step (pc' := 67) rfl rfl ?_
              refine Rn.getf (pc' := 70) rfl rfl rfl rfl rfl ?_
              refine Rn.step (pc' := 71) rfl rfl ?_
              refine Rn.step (pc' := 72) rfl rfl ?_
              refine Rn.step (pc' := 73) rfl rfl ?_
              refine Rn.step (pc' := 75) rfl rfl ?_
              refine Rn.vv (pc' := 78) rfl (by decide) (by omega) rfl rfl rfl (c_P_add (K := K) (ob.pr.f.trans ob.pr.k) (by omega) n p b z) ?_
              refine Rn.step (pc' := 79) rfl rfl ?_
              refine Rn.getf (pc' := 82) rfl rfl rfl rfl rfl ?_
              refine Rn.getf (pc' := 85) rfl rfl rfl rfl rfl ?_
              exact Rn.iret rfl (rfl) (⟨fun z => absurd z h2, fun _ => ⟨fun hg => absurd hg (fun z => z.elim (fun c => c h19) (fun z => z.elim (fun c => c h27) (fun z => z.elim (fun c => c ⟨Int32.not_lt.mp h31, Int32.not_lt.mp h36⟩) (fun c => by
                  rw [ob.pr.k] at c
                  have := (nI_eq (a := K) (b := 10) (by omega) (by omega)).mp c
                  omega)))), fun _ => ⟨rfl, rfl, hK⟩⟩⟩)
            · refine Rn.iconst (v := (-2)) (pc' := 65) rfl (by decide) rfl ?_
              exact Rn.iret rfl (rfl) (⟨fun z => absurd z h2, fun _ => ⟨fun _ => ⟨rfl, rfl⟩, fun hg => absurd (Or.inr (Or.inr (Or.inr ((by
                    rw [ob.pr.f, ob.pr.k] at h60
                    have := mt (nI_ltI (a := K) (b := 10) (by omega) (by omega)).mpr h60
                    rw [ob.pr.k, show K = 10 by omega]
                    rfl))))) hg⟩⟩)
  · refine Rn.step (pc' := 6) rfl rfl ?_
    refine Rn.getf (pc' := 9) rfl rfl rfl rfl rfl ?_
    refine Rn.iconst (v := 0) (pc' := 10) rfl (by decide) rfl ?_
    refine Rn.cput (pc' := 13) rfl rfl rfl rfl rfl (by decide) rfl ?_
    refine Rn.iconst (v := 0) (pc' := 14) rfl (by decide) rfl ?_
    exact Rn.iret rfl (rfl) (⟨fun _ => ⟨rfl, rfl⟩, fun z => absurd h2 z⟩)
end CS
