/-! THE CLASS: what is asked. -/
section CO
variable {m0 : xM} {F I : Nat → Nat → Int32} {L : Nat → Nat → Int64} {R : Nat → Nat → Option Nat} {H : Value} {s w : Nat → Int32} {o : Nat} {gg : Prop}
/-- all that the class knows, as the model knows it -/
abbrev OB (P Bn Fn Wn K rn : Nat) (fo : Int32) (rl : xRl) (s : Nat → Int32) (F I : Nat → Nat → Int32) (R : Nat → Nat → Option Nat) (m0 : xM) : Prop := (LI P Bn Fn Wn s) ∧ (LR P Bn Fn Wn s F I) ∧ (WX P Wn s) ∧ (WR True Bn s (I 9)) ∧ (PR K s (F 12) (I 13)) ∧ (F 0 12 = nI rn) ∧ (rn ≤ 6) ∧ (F 0 13 = fo) ∧ (fo = -1 ∨ ∃ r, r < rn ∧ fo = nI r) ∧ (∀ r, r < rn → ∃ a, R 6 r = some a ∧ RuC m0 a (rl r)) ∧ (DB s 550)
theorem OB.li {P Bn Fn Wn K rn : Nat} {fo : Int32} {rl : xRl} {s : Nat → Int32} {F I : Nat → Nat → Int32} {R : Nat → Nat → Option Nat} {m0 : xM} (h : OB P Bn Fn Wn K rn fo rl s F I R m0) : LI P Bn Fn Wn s := h.1
theorem OB.lr {P Bn Fn Wn K rn : Nat} {fo : Int32} {rl : xRl} {s : Nat → Int32} {F I : Nat → Nat → Int32} {R : Nat → Nat → Option Nat} {m0 : xM} (h : OB P Bn Fn Wn K rn fo rl s F I R m0) : LR P Bn Fn Wn s F I := h.2.1
theorem OB.wx {P Bn Fn Wn K rn : Nat} {fo : Int32} {rl : xRl} {s : Nat → Int32} {F I : Nat → Nat → Int32} {R : Nat → Nat → Option Nat} {m0 : xM} (h : OB P Bn Fn Wn K rn fo rl s F I R m0) : WX P Wn s := h.2.2.1
theorem OB.wr {P Bn Fn Wn K rn : Nat} {fo : Int32} {rl : xRl} {s : Nat → Int32} {F I : Nat → Nat → Int32} {R : Nat → Nat → Option Nat} {m0 : xM} (h : OB P Bn Fn Wn K rn fo rl s F I R m0) : WR True Bn s (I 9) := h.2.2.2.1
theorem OB.pr {P Bn Fn Wn K rn : Nat} {fo : Int32} {rl : xRl} {s : Nat → Int32} {F I : Nat → Nat → Int32} {R : Nat → Nat → Option Nat} {m0 : xM} (h : OB P Bn Fn Wn K rn fo rl s F I R m0) : PR K s (F 12) (I 13) := h.2.2.2.2.1
theorem OB.rc {P Bn Fn Wn K rn : Nat} {fo : Int32} {rl : xRl} {s : Nat → Int32} {F I : Nat → Nat → Int32} {R : Nat → Nat → Option Nat} {m0 : xM} (h : OB P Bn Fn Wn K rn fo rl s F I R m0) : F 0 12 = nI rn := h.2.2.2.2.2.1
theorem OB.r6 {P Bn Fn Wn K rn : Nat} {fo : Int32} {rl : xRl} {s : Nat → Int32} {F I : Nat → Nat → Int32} {R : Nat → Nat → Option Nat} {m0 : xM} (h : OB P Bn Fn Wn K rn fo rl s F I R m0) : rn ≤ 6 := h.2.2.2.2.2.2.1
theorem OB.fo {P Bn Fn Wn K rn : Nat} {fo : Int32} {rl : xRl} {s : Nat → Int32} {F I : Nat → Nat → Int32} {R : Nat → Nat → Option Nat} {m0 : xM} (h : OB P Bn Fn Wn K rn fo rl s F I R m0) : F 0 13 = fo := h.2.2.2.2.2.2.2.1
theorem OB.fi {P Bn Fn Wn K rn : Nat} {fo : Int32} {rl : xRl} {s : Nat → Int32} {F I : Nat → Nat → Int32} {R : Nat → Nat → Option Nat} {m0 : xM} (h : OB P Bn Fn Wn K rn fo rl s F I R m0) : fo = -1 ∨ ∃ r, r < rn ∧ fo = nI r := h.2.2.2.2.2.2.2.2.1
theorem OB.ru {P Bn Fn Wn K rn : Nat} {fo : Int32} {rl : xRl} {s : Nat → Int32} {F I : Nat → Nat → Int32} {R : Nat → Nat → Option Nat} {m0 : xM} (h : OB P Bn Fn Wn K rn fo rl s F I R m0) : ∀ r, r < rn → ∃ a, R 6 r = some a ∧ RuC m0 a (rl r) := h.2.2.2.2.2.2.2.2.2.1
theorem OB.db {P Bn Fn Wn K rn : Nat} {fo : Int32} {rl : xRl} {s : Nat → Int32} {F I : Nat → Nat → Int32} {R : Nat → Nat → Option Nat} {m0 : xM} (h : OB P Bn Fn Wn K rn fo rl s F I R m0) : DB s 550 := h.2.2.2.2.2.2.2.2.2.2
theorem LI.b6 {P Bn Fn Wn : Nat} {s : Nat → Int32} (h : LI P Bn Fn Wn s) : Bn ≤ 6 := by
  rcases h with h | h
  · exact h.2.1.b6
  · omega
theorem LI.bn {P Bn Fn Wn : Nat} {s : Nat → Int32} (h : LI P Bn Fn Wn s) : s 2 = nI Bn := by
  rcases h with h | h
  · exact h.2.1.b
  · rw [h.2.1, h.2.2.2.2.2.1]
    rfl
/-- what asking leaves as it was -/
def qF (F F1 : Nat → Nat → Int32) : Prop := ∀ k, k = 0 ∨ k = 1 ∨ k = 10 ∨ k = 12 ∨ k = 17 → F1 k = F k
def qI (I I1 : Nat → Nat → Int32) : Prop := ∀ k, k = 2 ∨ k = 9 ∨ k = 11 ∨ k = 13 ∨ k = 18 ∨ k = 19 ∨ k = 20 ∨ k = 21 ∨ k = 22 → I1 k = I k
def QG (m0 : xM) (F I : Nat → Nat → Int32) (R : Nat → Nat → Option Nat) (m : xM) : Prop := ∃ F1 I1 L1 H1, m = CC m0 F1 I1 L1 R H1 ∧ qF F F1 ∧ qI I I1
theorem QG.rfl (m0 : xM) (F I : Nat → Nat → Int32) (L : Nat → Nat → Int64) (R : Nat → Nat → Option Nat) (H : Value) : QG m0 F I R (CC m0 F I L R H) := ⟨F, I, L, H, Eq.refl _, fun _ _ => Eq.refl _, fun _ _ => Eq.refl _⟩
theorem lt2 (x : Int32) : ¬ 2 ≤ x ↔ x ≤ 1 := by
  rw [Int32.le_iff_toInt_le, Int32.le_iff_toInt_le, show (2 : Int32).toInt = 2 by decide, show (1 : Int32).toInt = 1 by decide]
  omega
theorem c_O_hasLane {d : Nat} (h : F 17 6 = s 0) : Cl d j_O_hasLane [.ref 0] (CC m0 F I L R H) (Pi (if 0 < s 0 then 1 else 0) (CC m0 F I L R H)) := by
  show Rn d j_O_hasLane 0 _ _ _ _
  refine Rn.step (pc' := 1) rfl rfl ?_
  refine Rn.getf (pc' := 4) rfl rfl rfl rfl rfl ?_
  refine Rn.getf (pc' := 7) rfl rfl rfl rfl rfl ?_
  refine Rn.ifc_le (pc1 := 14) (pc2 := 10) rfl rfl rfl (fun h7 => ?_) (fun h7 => ?_)
  · refine Rn.iconst (v := 0) (pc' := 15) rfl (by decide) rfl ?_
    exact Rn.iret rfl (by decide) (⟨by rw [if_neg (fun z => absurd (h ▸ h7) (Int32.not_le.mpr z))], rfl⟩)
  · refine Rn.iconst (v := 1) (pc' := 11) rfl (by decide) rfl ?_
    refine Rn.step (pc' := 15) rfl rfl ?_
    exact Rn.iret rfl (by decide) (⟨by rw [if_pos (Int32.not_le.mp (h ▸ h7))], rfl⟩)
theorem c_O_isBrother {d : Nat} (h : F 17 10 = s 2) (x : Int32) : Cl d j_O_isBrother [.ref 0, .int x] (CC m0 F I L R H) (Pi (if isBr s x then 1 else 0) (CC m0 F I L R H)) := by
  show Rn d j_O_isBrother 0 _ _ _ _
  refine Rn.step (pc' := 1) rfl rfl ?_
  refine Rn.ifc_lt (pc1 := 19) (pc2 := 4) rfl rfl rfl (fun h1 => ?_) (fun h1 => ?_)
  · refine Rn.iconst (v := 0) (pc' := 20) rfl (by decide) rfl ?_
    exact Rn.iret rfl (by decide) (⟨by rw [if_neg (fun z => z.1 h1)], rfl⟩)
  · refine Rn.step (pc' := 5) rfl rfl ?_
    refine Rn.step (pc' := 6) rfl rfl ?_
    refine Rn.getf (pc' := 9) rfl rfl rfl rfl rfl ?_
    refine Rn.getf (pc' := 12) rfl rfl rfl rfl rfl ?_
    refine Rn.icmp_ge (pc1 := 19) (pc2 := 15) rfl rfl rfl (fun h12 => ?_) (fun h12 => ?_)
    · refine Rn.iconst (v := 0) (pc' := 20) rfl (by decide) rfl ?_
      exact Rn.iret rfl (by decide) (⟨by rw [if_neg (fun z => z.2 (h ▸ h12))], rfl⟩)
    · refine Rn.iconst (v := 1) (pc' := 16) rfl (by decide) rfl ?_
      refine Rn.step (pc' := 20) rfl rfl ?_
      exact Rn.iret rfl (by decide) (⟨by rw [if_pos ⟨h1, h ▸ h12⟩], rfl⟩)
theorem c_O_isPlace {d : Nat} (h : F 17 6 = s 0) (x : Int32) : Cl d j_O_isPlace [.ref 0, .int x] (CC m0 F I L R H) (Pi (if isPl s x then 1 else 0) (CC m0 F I L R H)) := by
  show Rn d j_O_isPlace 0 _ _ _ _
  refine Rn.step (pc' := 1) rfl rfl ?_
  refine Rn.ifc_lt (pc1 := 19) (pc2 := 4) rfl rfl rfl (fun h1 => ?_) (fun h1 => ?_)
  · refine Rn.iconst (v := 0) (pc' := 20) rfl (by decide) rfl ?_
    exact Rn.iret rfl (by decide) (⟨by rw [if_neg (fun z => z.1 h1)], rfl⟩)
  · refine Rn.step (pc' := 5) rfl rfl ?_
    refine Rn.step (pc' := 6) rfl rfl ?_
    refine Rn.getf (pc' := 9) rfl rfl rfl rfl rfl ?_
    refine Rn.getf (pc' := 12) rfl rfl rfl rfl rfl ?_
    refine Rn.icmp_ge (pc1 := 19) (pc2 := 15) rfl rfl rfl (fun h12 => ?_) (fun h12 => ?_)
    · refine Rn.iconst (v := 0) (pc' := 20) rfl (by decide) rfl ?_
      exact Rn.iret rfl (by decide) (⟨by rw [if_neg (fun z => z.2 (h ▸ h12))], rfl⟩)
    · refine Rn.iconst (v := 1) (pc' := 16) rfl (by decide) rfl ?_
      refine Rn.step (pc' := 20) rfl rfl ?_
      exact Rn.iret rfl (by decide) (⟨by rw [if_pos ⟨h1, h ▸ h12⟩], rfl⟩)
theorem c_O_isBoot {d : Nat} (hd : 1 ≤ d) (h : F 17 6 = s 0) (x : Int32) : Cl d j_O_isBoot [.ref 0, .int x] (CC m0 F I L R H) (Pi (if isBt s x then 1 else 0) (CC m0 F I L R H)) := by
  show Rn d j_O_isBoot 0 _ _ _ _
  refine Rn.step (pc' := 1) rfl rfl ?_
  refine Rn.vi (pc' := 4) rfl (by decide) (by omega) rfl rfl rfl (c_O_hasLane h) ?_
  refine Rn.ifp_eq (pc1 := 20) (pc2 := 7) rfl rfl rfl (fun h4 => ?_) (fun h4 => ?_)
  · refine Rn.iconst (v := 0) (pc' := 21) rfl (by decide) rfl ?_
    exact Rn.iret rfl (by decide) (⟨by rw [if_neg (fun z => h4 z.1)], rfl⟩)
  · refine Rn.step (pc' := 8) rfl rfl ?_
    refine Rn.ifc_lt (pc1 := 20) (pc2 := 11) rfl rfl rfl (fun h8 => ?_) (fun h8 => ?_)
    · refine Rn.iconst (v := 0) (pc' := 21) rfl (by decide) rfl ?_
      exact Rn.iret rfl (by decide) (⟨by rw [if_neg (fun z => Int32.not_lt.mpr z.2.1 h8)], rfl⟩)
    · refine Rn.step (pc' := 12) rfl rfl ?_
      refine Rn.iconst (v := 2) (pc' := 13) rfl (by decide) rfl ?_
      refine Rn.icmp_ge (pc1 := 20) (pc2 := 16) rfl rfl rfl (fun h13 => ?_) (fun h13 => ?_)
      · refine Rn.iconst (v := 0) (pc' := 21) rfl (by decide) rfl ?_
        exact Rn.iret rfl (by decide) (⟨by rw [if_neg (fun z => (lt2 x).mpr z.2.2 h13)], rfl⟩)
      · refine Rn.iconst (v := 1) (pc' := 17) rfl (by decide) rfl ?_
        refine Rn.step (pc' := 21) rfl rfl ?_
        exact Rn.iret rfl (by decide) (⟨by rw [if_pos ⟨h4, Int32.not_lt.mp h8, (lt2 x).mp h13⟩], rfl⟩)
theorem c_O_isLending {d : Nat} (x : Int32) : Cl d j_O_isLending [.int x] (CC m0 F I L R H) (Pi (if 1 ≤ x ∧ x ≤ 24 then 1 else 0) (CC m0 F I L R H)) := by
  show Rn d j_O_isLending 0 _ _ _ _
  refine Rn.step (pc' := 1) rfl rfl ?_
  refine Rn.iconst (v := 1) (pc' := 2) rfl (by decide) rfl ?_
  refine Rn.icmp_lt (pc1 := 15) (pc2 := 5) rfl rfl rfl (fun h2 => ?_) (fun h2 => ?_)
  · refine Rn.iconst (v := 0) (pc' := 16) rfl (by decide) rfl ?_
    exact Rn.iret rfl (by decide) (⟨by rw [if_neg (fun z => absurd h2 (Int32.not_lt.mpr z.1))], rfl⟩)
  · refine Rn.step (pc' := 6) rfl rfl ?_
    refine Rn.iconst (v := 24) (pc' := 8) rfl (by decide) rfl ?_
    refine Rn.icmp_gt (pc1 := 15) (pc2 := 11) rfl rfl rfl (fun h8 => ?_) (fun h8 => ?_)
    · refine Rn.iconst (v := 0) (pc' := 16) rfl (by decide) rfl ?_
      exact Rn.iret rfl (by decide) (⟨by rw [if_neg (fun z => absurd h8 (Int32.not_lt.mpr z.2))], rfl⟩)
    · refine Rn.iconst (v := 1) (pc' := 12) rfl (by decide) rfl ?_
      refine Rn.step (pc' := 16) rfl rfl ?_
      exact Rn.iret rfl (by decide) (⟨by rw [if_pos ⟨Int32.not_lt.mp h2, Int32.not_lt.mp h8⟩], rfl⟩)
theorem c_O_isHourOfAll {d : Nat} (x : Int32) : Cl d j_O_isHourOfAll [.int x] (CC m0 F I L R H) (Pi (if 0 ≤ x ∧ x ≤ 47 then 1 else 0) (CC m0 F I L R H)) := by
  show Rn d j_O_isHourOfAll 0 _ _ _ _
  refine Rn.step (pc' := 1) rfl rfl ?_
  refine Rn.ifc_lt (pc1 := 14) (pc2 := 4) rfl rfl rfl (fun h1 => ?_) (fun h1 => ?_)
  · refine Rn.iconst (v := 0) (pc' := 15) rfl (by decide) rfl ?_
    exact Rn.iret rfl (by decide) (⟨by rw [if_neg (fun z => absurd h1 (Int32.not_lt.mpr z.1))], rfl⟩)
  · refine Rn.step (pc' := 5) rfl rfl ?_
    refine Rn.iconst (v := 47) (pc' := 7) rfl (by decide) rfl ?_
    refine Rn.icmp_gt (pc1 := 14) (pc2 := 10) rfl rfl rfl (fun h7 => ?_) (fun h7 => ?_)
    · refine Rn.iconst (v := 0) (pc' := 15) rfl (by decide) rfl ?_
      exact Rn.iret rfl (by decide) (⟨by rw [if_neg (fun z => absurd h7 (Int32.not_lt.mpr z.2))], rfl⟩)
    · refine Rn.iconst (v := 1) (pc' := 11) rfl (by decide) rfl ?_
      refine Rn.step (pc' := 15) rfl rfl ?_
      exact Rn.iret rfl (by decide) (⟨by rw [if_pos ⟨Int32.not_lt.mp h1, Int32.not_lt.mp h7⟩], rfl⟩)
theorem c_O_isUpTo99 {d : Nat} (x : Int32) : Cl d j_O_isUpTo99 [.int x] (CC m0 F I L R H) (Pi (if 0 ≤ x ∧ x ≤ 99 then 1 else 0) (CC m0 F I L R H)) := by
  show Rn d j_O_isUpTo99 0 _ _ _ _
  refine Rn.step (pc' := 1) rfl rfl ?_
  refine Rn.ifc_lt (pc1 := 14) (pc2 := 4) rfl rfl rfl (fun h1 => ?_) (fun h1 => ?_)
  · refine Rn.iconst (v := 0) (pc' := 15) rfl (by decide) rfl ?_
    exact Rn.iret rfl (by decide) (⟨by rw [if_neg (fun z => absurd h1 (Int32.not_lt.mpr z.1))], rfl⟩)
  · refine Rn.step (pc' := 5) rfl rfl ?_
    refine Rn.iconst (v := 99) (pc' := 7) rfl (by decide) rfl ?_
    refine Rn.icmp_gt (pc1 := 14) (pc2 := 10) rfl rfl rfl (fun h7 => ?_) (fun h7 => ?_)
    · refine Rn.iconst (v := 0) (pc' := 15) rfl (by decide) rfl ?_
      exact Rn.iret rfl (by decide) (⟨by rw [if_neg (fun z => absurd h7 (Int32.not_lt.mpr z.2))], rfl⟩)
    · refine Rn.iconst (v := 1) (pc' := 11) rfl (by decide) rfl ?_
      refine Rn.step (pc' := 15) rfl rfl ?_
      exact Rn.iret rfl (by decide) (⟨by rw [if_pos ⟨Int32.not_lt.mp h1, Int32.not_lt.mp h7⟩], rfl⟩)
/-- the hours made ready -/
def rdF (F : Nat → Nat → Int32) : Nat → Nat → Int32 := va_up F 14 (upd (upd (F 14) 4 (-1)) 5 0)
theorem rdF_q (F : Nat → Nat → Int32) : qF F (rdF F) := fun k hk => up_ne F _ (by omega)
theorem c_O_ready {d : Nat} {P Bn Fn Wn K rn : Nat} {fo : Int32} {rl : xRl} (ob : OB P Bn Fn Wn K rn fo rl s F I R m0) : Cl d j_O_readyHours [.ref 0] (CC m0 F I L R H) (fun r m2 => r = some (.ref 14) ∧ ∃ H1, m2 = CC m0 (rdF F) I L R H1 ∧ RH (fo, rl, -1, 0, Bn, Fn, Wn) m0 H1) := by
  have h6 := ob.r6
  show Rn d j_O_readyHours 0 _ _ _ _
  rcases ob.fi with hf | ⟨r, hr, hf⟩
  · skip
    refine Rn.step (pc' := 1) rfl rfl ?_
    refine Rn.getf (pc' := 4) rfl rfl rfl rfl rfl ?_
    refine Rn.ifc_lt (pc1 := 22) (pc2 := 7) rfl rfl rfl (fun h4 => ?_) (fun h4 => absurd (by rw [ob.fo, hf]; exact neg1) h4)
    refine Rn.iconst (v := 0) (pc' := 23) rfl (by decide) rfl ?_
    refine Rn.step (pc' := 24) rfl rfl ?_
    refine Rn.step (pc' := 25) rfl rfl ?_
    refine Rn.getf (pc' := 28) rfl rfl rfl rfl rfl ?_
    refine Rn.step (pc' := 29) rfl rfl ?_
    refine Rn.ifc_eq (pc1 := 44) (pc2 := 32) rfl rfl rfl (fun h29 => ?_) (fun h29 => absurd (rfl) h29)
    refine Rn.step (pc' := 45) rfl rfl ?_
    refine Rn.cputH (pc' := 48) rfl (Or.inl rfl) rfl ?_
    refine Rn.step (pc' := 49) rfl rfl ?_
    refine Rn.getf (pc' := 52) rfl rfl rfl rfl rfl ?_
    refine Rn.iconst (v := (-1)) (pc' := 53) rfl (by decide) rfl ?_
    refine Rn.cput (pc' := 56) rfl rfl rfl rfl rfl (by decide) rfl ?_
    refine Rn.step (pc' := 57) rfl rfl ?_
    refine Rn.getf (pc' := 60) rfl rfl rfl rfl rfl ?_
    refine Rn.iconst (v := 0) (pc' := 61) rfl (by decide) rfl ?_
    refine Rn.cput (pc' := 64) rfl rfl rfl rfl rfl (by decide) rfl ?_
    refine Rn.step (pc' := 65) rfl rfl ?_
    refine Rn.getf (pc' := 68) rfl rfl rfl rfl rfl ?_
    exact Rn.aret rfl (by decide) (⟨rfl, .null, by rw [va_up_self, up_up]; rfl, Or.inl ⟨by show fo < 0; rw [hf]; exact neg1, rfl⟩⟩)
  · obtain ⟨a, hra, hrc⟩ := ob.ru r hr
    refine Rn.step (pc' := 1) rfl rfl ?_
    refine Rn.getf (pc' := 4) rfl rfl rfl rfl rfl ?_
    refine Rn.ifc_lt (pc1 := 22) (pc2 := 7) rfl rfl rfl (fun h4 => absurd h4 (by rw [ob.fo, hf]; exact nI_pos (by omega))) (fun h4 => ?_)
    refine Rn.step (pc' := 8) rfl rfl ?_
    refine Rn.getf (pc' := 11) rfl rfl rfl rfl rfl ?_
    refine Rn.step (pc' := 12) rfl rfl ?_
    refine Rn.getf (pc' := 15) rfl rfl rfl rfl rfl ?_
    refine Rn.icmp_ge (pc1 := 22) (pc2 := 18) rfl rfl rfl (fun h15 => absurd h15 (by rw [ob.fo, hf, ob.rc]; exact fun z => absurd ((nI_leI (by omega) (by omega)).mp z) (by omega))) (fun h15 => ?_)
    refine Rn.iconst (v := 1) (pc' := 19) rfl (by decide) rfl ?_
    refine Rn.step (pc' := 23) rfl rfl ?_
    refine Rn.step (pc' := 24) rfl rfl ?_
    refine Rn.step (pc' := 25) rfl rfl ?_
    refine Rn.getf (pc' := 28) rfl rfl rfl rfl rfl ?_
    refine Rn.step (pc' := 29) rfl rfl ?_
    refine Rn.ifc_eq (pc1 := 44) (pc2 := 32) rfl rfl rfl (fun h29 => absurd h29 (by decide)) (fun h29 => ?_)
    refine Rn.step (pc' := 33) rfl rfl ?_
    refine Rn.getf (pc' := 36) rfl rfl rfl rfl rfl ?_
    refine Rn.step (pc' := 37) rfl rfl ?_
    refine Rn.getf (pc' := 40) rfl rfl rfl rfl rfl ?_
    rw [ob.fo, hf]
    refine Rn.caald (a := 6) (t := 4) (n := 6) (k := r) (v := a) (pc' := 41) rfl rfl (by omega) rfl (by omega) (by omega) hra hrc.choose_spec.choose_spec.choose_spec.choose_spec.2.1 rfl ?_
    refine Rn.step (pc' := 45) rfl rfl ?_
    refine Rn.cputH (pc' := 48) rfl (Or.inr ⟨a, rfl⟩) rfl ?_
    refine Rn.step (pc' := 49) rfl rfl ?_
    refine Rn.getf (pc' := 52) rfl rfl rfl rfl rfl ?_
    refine Rn.iconst (v := (-1)) (pc' := 53) rfl (by decide) rfl ?_
    refine Rn.cput (pc' := 56) rfl rfl rfl rfl rfl (by decide) rfl ?_
    refine Rn.step (pc' := 57) rfl rfl ?_
    refine Rn.getf (pc' := 60) rfl rfl rfl rfl rfl ?_
    refine Rn.iconst (v := 0) (pc' := 61) rfl (by decide) rfl ?_
    refine Rn.cput (pc' := 64) rfl rfl rfl rfl rfl (by decide) rfl ?_
    refine Rn.step (pc' := 65) rfl rfl ?_
    refine Rn.getf (pc' := 68) rfl rfl rfl rfl rfl ?_
    exact Rn.aret rfl (by decide) (⟨rfl, .ref a, by rw [va_up_self, up_up]; rfl, Or.inr ⟨show ¬ nI r < 0 from nI_pos (by omega), a, rfl, by show RuC m0 a (rl (nI r).toNatClampNeg); rw [nI_clamp (by omega)]; exact hrc⟩⟩)
theorem OB.hb {P Bn Fn Wn K rn : Nat} {fo : Int32} {rl : xRl} (ob : OB P Bn Fn Wn K rn fo rl s F I R m0) (h0 : 0 < s 0) {H1 : Value} (hH : RH (fo, rl, -1, 0, Bn, Fn, Wn) m0 H1) : HB P (fo, rl, -1, 0, Bn, Fn, Wn) s (rdF F) I H1 m0 := ⟨ob.lr, (ob.li.lane h0).1, ob.wx, (ob.li.lane h0).2, rfl, Or.inl rfl, hH⟩
theorem tq {F F1 : Nat → Nat → Int32} (h : tF (rdF F) F1) : qF F F1 := fun k hk => (h.1 k (by omega) (by omega)).trans (rdF_q F k hk)
theorem tqI {I I1 : Nat → Nat → Int32} (h : tI I I1) : qI I I1 := fun k hk => h k (by omega) (by omega) (by omega)
set_option maxHeartbeats 4000000 in
theorem c_O_lend {d : Nat} {P Bn Fn Wn K rn : Nat} {fo : Int32} {rl : xRl} (hd : 9 ≤ d) (ob : OB P Bn Fn Wn K rn fo rl s F I R m0) (x y : Int32) : Cl d j_O_lend [.ref 0, .int x, .int y] (CC m0 F I L R H) (fun r m2 => (gLe s x y → r = some (.int (-2)) ∧ QG m0 F I R m2) ∧ (¬ gLe s x y → r = some (.int (if y = 0 then (flE (fo, rl, -1, 0, Bn, Fn, Wn) s x.toNatClampNeg (-1) Bn).1 else (flE (fo, rl, -1, 0, Bn, Fn, Wn) s x.toNatClampNeg (-1) Bn).2)) ∧ QG m0 F I R m2)) := by
  show Rn d j_O_lend 0 _ _ _ _
  refine Rn.step (pc' := 1) rfl rfl ?_
  refine Rn.vi (pc' := 4) rfl (by decide) (by omega) rfl rfl rfl (c_O_hasLane ob.lr.p) ?_
  refine Rn.ifp_eq (pc1 := 23) (pc2 := 7) rfl rfl rfl (fun h4 => ?_) (fun h4 => ?_)
  · refine Rn.iconst (v := (-2)) (pc' := 25) rfl (by decide) rfl ?_
    exact Rn.iret rfl (rfl) (⟨fun _ => ⟨rfl, QG.rfl _ _ _ _ _ _⟩, fun hg => absurd (Or.inl h4) hg⟩)
  · refine Rn.step (pc' := 8) rfl rfl ?_
    refine Rn.si (pc' := 11) rfl (by decide) (by omega) rfl rfl (c_O_isLending x) ?_
    refine Rn.ifp_eq (pc1 := 23) (pc2 := 14) rfl rfl rfl (fun h11 => ?_) (fun h11 => ?_)
    · refine Rn.iconst (v := (-2)) (pc' := 25) rfl (by decide) rfl ?_
      exact Rn.iret rfl (rfl) (⟨fun _ => ⟨rfl, QG.rfl _ _ _ _ _ _⟩, fun hg => absurd (Or.inr (Or.inl h11)) hg⟩)
    · refine Rn.step (pc' := 15) rfl rfl ?_
      refine Rn.ifc_lt (pc1 := 23) (pc2 := 18) rfl rfl rfl (fun h15 => ?_) (fun h15 => ?_)
      · refine Rn.iconst (v := (-2)) (pc' := 25) rfl (by decide) rfl ?_
        exact Rn.iret rfl (rfl) (⟨fun _ => ⟨rfl, QG.rfl _ _ _ _ _ _⟩, fun hg => absurd (Or.inr (Or.inr ((fun z => absurd h15 (Int32.not_lt.mpr z.1))))) hg⟩)
      · refine Rn.step (pc' := 19) rfl rfl ?_
        refine Rn.iconst (v := 1) (pc' := 20) rfl (by decide) rfl ?_
        refine Rn.icmp_le (pc1 := 26) (pc2 := 23) rfl rfl rfl (fun h20 => ?_) (fun h20 => ?_)
        · obtain ⟨N, hN, rfl⟩ := xN (n := 24) (by decide) (by decide) (h11)
          have eN : (nI N).toNatClampNeg = N := nI_clamp (by omega)
          refine Rn.step (pc' := 27) rfl rfl ?_
          refine Rn.getf (pc' := 30) rfl rfl rfl rfl rfl ?_
          refine Rn.step (pc' := 31) rfl rfl ?_
          refine Rn.callV (pc' := 34) rfl (by decide) (by omega) rfl rfl rfl (c_O_ready ob) (fun r_ m_ hc_ => ?_)
          obtain ⟨rfl, H1, rfl, hH⟩ := hc_
          refine Rn.step (pc' := 35) rfl rfl ?_
          refine Rn.getf (pc' := 38) rfl rfl rfl rfl rfl ?_
          refine Rn.step (pc' := 39) rfl rfl ?_
          refine Rn.iconst (v := (-1)) (pc' := 40) rfl (by decide) rfl ?_
          refine Rn.callV (pc' := 43) rfl (by decide) (by omega) rfl rfl rfl (c_T_most (E := (fo, rl, -1, 0, Bn, Fn, Wn)) (gg := True) rfl (ob.hb h4 hH) ob.wr (ob.db.up (by omega)) (N := N) (by omega) (by omega) (-1) ⟨rdF F, I, L, rfl, tF.rfl _, tI.rfl _⟩) (fun r_ m_ hc_ => ?_)
          obtain ⟨rfl, F1, I1, L1, rfl, fs1, is1, hw⟩ := hc_
          refine Rn.step (pc' := 44) rfl rfl ?_
          refine Rn.step (pc' := 45) rfl rfl ?_
          refine Rn.ifc_ne (pc1 := 58) (pc2 := 48) rfl rfl rfl (fun h45 => ?_) (fun h45 => ?_)
          · refine Rn.step (pc' := 59) rfl rfl ?_
            exact Rn.iret rfl (rfl) (⟨fun hg => absurd hg (fun z => z.elim (fun c => c h4) (fun z => z.elim (fun c => c h11) (fun c => c ⟨Int32.not_lt.mp h15, h20⟩))), fun _ => ⟨by
                rw [eN, if_neg h45], ⟨F1, I1, L1, H1, rfl, tq fs1, tqI is1⟩⟩⟩)
          · refine Rn.step (pc' := 49) rfl rfl ?_
            refine Rn.getf (pc' := 52) rfl rfl rfl rfl rfl ?_
            refine Rn.getf (pc' := 55) rfl rfl rfl rfl rfl ?_
            refine Rn.step (pc' := 59) rfl rfl ?_
            exact Rn.iret rfl (rfl) (⟨fun hg => absurd hg (fun z => z.elim (fun c => c h4) (fun z => z.elim (fun c => c h11) (fun c => c ⟨Int32.not_lt.mp h15, h20⟩))), fun _ => ⟨by
                rw [eN, if_pos h45, ← hw], ⟨F1, I1, L1, H1, rfl, tq fs1, tqI is1⟩⟩⟩)
        · refine Rn.iconst (v := (-2)) (pc' := 25) rfl (by decide) rfl ?_
          exact Rn.iret rfl (rfl) (⟨fun _ => ⟨rfl, QG.rfl _ _ _ _ _ _⟩, fun hg => absurd (Or.inr (Or.inr ((fun z => h20 z.2)))) hg⟩)
set_option maxHeartbeats 4000000 in
theorem c_O_worth {d : Nat} {P Bn Fn Wn K rn : Nat} {fo : Int32} {rl : xRl} (hd : 9 ≤ d) (ob : OB P Bn Fn Wn K rn fo rl s F I R m0) (x y : Int32) : Cl d j_O_worth [.ref 0, .int x, .int y] (CC m0 F I L R H) (fun r m2 => (gWo s x y → r = some (.int (-1)) ∧ QG m0 F I R m2) ∧ (¬ gWo s x y → r = some (.int ((flE (fo, rl, -1, 0, Bn, Fn, Wn) s y.toNatClampNeg (-1) Bn).2 - (flE (fo, rl, -1, 0, Bn, Fn, Wn) s y.toNatClampNeg x Bn).2)) ∧ QG m0 F I R m2)) := by
  show Rn d j_O_worth 0 _ _ _ _
  refine Rn.step (pc' := 1) rfl rfl ?_
  refine Rn.step (pc' := 2) rfl rfl ?_
  refine Rn.vi (pc' := 5) rfl (by decide) (by omega) rfl rfl rfl (c_O_isBrother ob.lr.b x) ?_
  refine Rn.ifp_eq (pc1 := 15) (pc2 := 8) rfl rfl rfl (fun h5 => ?_) (fun h5 => ?_)
  · refine Rn.iconst (v := (-1)) (pc' := 16) rfl (by decide) rfl ?_
    exact Rn.iret rfl (rfl) (⟨fun _ => ⟨rfl, QG.rfl _ _ _ _ _ _⟩, fun hg => absurd (Or.inl h5) hg⟩)
  · refine Rn.step (pc' := 9) rfl rfl ?_
    refine Rn.si (pc' := 12) rfl (by decide) (by omega) rfl rfl (c_O_isLending y) ?_
    refine Rn.ifp_ne (pc1 := 17) (pc2 := 15) rfl rfl rfl (fun h12 => ?_) (fun h12 => ?_)
    · obtain ⟨h0, hl, hw0, b, hb, rfl⟩ := ob.li.bro h5
      obtain ⟨N, hN, rfl⟩ := xN (n := 24) (by decide) (by decide) (h12)
      have eN : (nI N).toNatClampNeg = N := nI_clamp (by omega)
      refine Rn.step (pc' := 18) rfl rfl ?_
      refine Rn.callV (pc' := 21) rfl (by decide) (by omega) rfl rfl rfl (c_O_ready ob) (fun r_ m_ hc_ => ?_)
      obtain ⟨rfl, H1, rfl, hH⟩ := hc_
      refine Rn.step (pc' := 22) rfl rfl ?_
      refine Rn.step (pc' := 23) rfl rfl ?_
      refine Rn.getf (pc' := 26) rfl rfl rfl rfl rfl ?_
      refine Rn.step (pc' := 27) rfl rfl ?_
      refine Rn.step (pc' := 28) rfl rfl ?_
      refine Rn.getf (pc' := 31) rfl rfl rfl rfl rfl ?_
      refine Rn.step (pc' := 32) rfl rfl ?_
      refine Rn.iconst (v := (-1)) (pc' := 33) rfl (by decide) rfl ?_
      refine Rn.callV (pc' := 36) rfl (by decide) (by omega) rfl rfl rfl (c_T_most (E := (fo, rl, -1, 0, Bn, Fn, Wn)) (gg := True) rfl (ob.hb h0 hH) ob.wr (ob.db.up (by omega)) (N := N) (by omega) (by omega) (-1) ⟨rdF F, I, L, rfl, tF.rfl _, tI.rfl _⟩) (fun r_ m_ hc_ => ?_)
      obtain ⟨rfl, F1, I1, L1, rfl, fs1, is1, hw⟩ := hc_
      refine Rn.step (pc' := 37) rfl rfl ?_
      refine Rn.getf (pc' := 40) rfl rfl rfl rfl rfl ?_
      refine Rn.step (pc' := 41) rfl rfl ?_
      refine Rn.step (pc' := 42) rfl rfl ?_
      refine Rn.getf (pc' := 45) rfl rfl rfl rfl rfl ?_
      refine Rn.step (pc' := 46) rfl rfl ?_
      refine Rn.step (pc' := 47) rfl rfl ?_
      refine Rn.callV (pc' := 50) rfl (by decide) (by omega) rfl rfl rfl (c_T_most (E := (fo, rl, -1, 0, Bn, Fn, Wn)) (gg := True) rfl (ob.hb h0 hH) ob.wr (ob.db.up (by omega)) (N := N) (by omega) (by omega) (nI b) ⟨F1, I1, L1, rfl, fs1, is1⟩) (fun r_ m_ hc_ => ?_)
      obtain ⟨rfl, F2, I2, L2, rfl, fs2, is2, hw2⟩ := hc_
      refine Rn.isub (pc' := 51) rfl rfl ?_
      exact Rn.iret rfl (rfl) (⟨fun hg => absurd hg (fun z => z.elim (fun c => c h5) (fun c => c h12)), fun _ => ⟨by rw [eN], ⟨F2, I2, L2, H1, rfl, tq fs2, tqI is2⟩⟩⟩)
    · refine Rn.iconst (v := (-1)) (pc' := 16) rfl (by decide) rfl ?_
      exact Rn.iret rfl (rfl) (⟨fun _ => ⟨rfl, QG.rfl _ _ _ _ _ _⟩, fun hg => absurd (Or.inr (h12)) hg⟩)
set_option maxHeartbeats 4000000 in
theorem c_O_bids {d : Nat} {P Bn Fn Wn K rn : Nat} {fo : Int32} {rl : xRl} (hd : 9 ≤ d) (ob : OB P Bn Fn Wn K rn fo rl s F I R m0) (x : Int32) : Cl d j_O_bids [.ref 0, .int x] (CC m0 F I L R H) (fun r m2 => (gBi s x → r = some (.int (-1)) ∧ QG m0 F I R m2) ∧ (¬ gBi s x → r = some (.int (bdA (bdE (fo, rl, -1, 0, Bn, Fn, Wn) s x.toNatClampNeg Bn))) ∧ QG m0 F I R m2)) := by
  show Rn d j_O_bids 0 _ _ _ _
  refine Rn.step (pc' := 1) rfl rfl ?_
  refine Rn.vi (pc' := 4) rfl (by decide) (by omega) rfl rfl rfl (c_O_hasLane ob.lr.p) ?_
  refine Rn.ifp_eq (pc1 := 14) (pc2 := 7) rfl rfl rfl (fun h4 => ?_) (fun h4 => ?_)
  · refine Rn.iconst (v := (-1)) (pc' := 15) rfl (by decide) rfl ?_
    exact Rn.iret rfl (rfl) (⟨fun _ => ⟨rfl, QG.rfl _ _ _ _ _ _⟩, fun hg => absurd (Or.inl h4) hg⟩)
  · refine Rn.step (pc' := 8) rfl rfl ?_
    refine Rn.si (pc' := 11) rfl (by decide) (by omega) rfl rfl (c_O_isLending x) ?_
    refine Rn.ifp_ne (pc1 := 16) (pc2 := 14) rfl rfl rfl (fun h11 => ?_) (fun h11 => ?_)
    · obtain ⟨N, hN, rfl⟩ := xN (n := 24) (by decide) (by decide) (h11)
      have eN : (nI N).toNatClampNeg = N := nI_clamp (by omega)
      refine Rn.step (pc' := 17) rfl rfl ?_
      refine Rn.getf (pc' := 20) rfl rfl rfl rfl rfl ?_
      refine Rn.step (pc' := 21) rfl rfl ?_
      refine Rn.callV (pc' := 24) rfl (by decide) (by omega) rfl rfl rfl (c_O_ready ob) (fun r_ m_ hc_ => ?_)
      obtain ⟨rfl, H1, rfl, hH⟩ := hc_
      refine Rn.step (pc' := 25) rfl rfl ?_
      refine Rn.getf (pc' := 28) rfl rfl rfl rfl rfl ?_
      refine Rn.step (pc' := 29) rfl rfl ?_
      refine Rn.callV (pc' := 32) rfl (by decide) (by omega) rfl rfl rfl (c_T_bid (E := (fo, rl, -1, 0, Bn, Fn, Wn)) (gg := True) rfl (ob.hb h4 hH) ob.wr (ob.db.up (by omega)) (N := N) (by omega) (by omega) ⟨rdF F, I, L, rfl, tF.rfl _, tI.rfl _⟩) (fun r_ m_ hc_ => ?_)
      obtain ⟨rfl, F1, I1, L1, rfl, fs1, is1⟩ := hc_
      exact Rn.iret rfl (rfl) (⟨fun hg => absurd hg (fun z => z.elim (fun c => c h4) (fun c => c h11)), fun _ => ⟨by rw [eN], ⟨F1, I1, L1, H1, rfl, tq fs1, tqI is1⟩⟩⟩)
    · refine Rn.iconst (v := (-1)) (pc' := 15) rfl (by decide) rfl ?_
      exact Rn.iret rfl (rfl) (⟨fun _ => ⟨rfl, QG.rfl _ _ _ _ _ _⟩, fun hg => absurd (Or.inr (h11)) hg⟩)
set_option maxHeartbeats 4000000 in
theorem c_O_second {d : Nat} {P Bn Fn Wn K rn : Nat} {fo : Int32} {rl : xRl} (hd : 9 ≤ d) (ob : OB P Bn Fn Wn K rn fo rl s F I R m0) (x n y : Int32) : Cl d j_O_second [.ref 0, .int x, .int n, .int y] (CC m0 F I L R H) (fun r m2 => (gSe s x n y → r = some (.int (-100000)) ∧ QG m0 F I R m2) ∧ (¬ gSe s x n y → r = some (.int (if y = 0 then (sdE (fo, rl, -1, 0, Bn, Fn, Wn) s n.toNatClampNeg x Bn).2 else (sdE (fo, rl, -1, 0, Bn, Fn, Wn) s n.toNatClampNeg x Bn).1)) ∧ QG m0 F I R m2)) := by
  show Rn d j_O_second 0 _ _ _ _
  refine Rn.step (pc' := 1) rfl rfl ?_
  refine Rn.vi (pc' := 4) rfl (by decide) (by omega) rfl rfl rfl (c_O_hasLane ob.lr.p) ?_
  refine Rn.ifp_eq (pc1 := 33) (pc2 := 7) rfl rfl rfl (fun h4 => ?_) (fun h4 => ?_)
  · refine Rn.iconst (v := (-100000)) (pc' := 35) rfl (by decide) rfl ?_
    exact Rn.iret rfl (rfl) (⟨fun _ => ⟨rfl, QG.rfl _ _ _ _ _ _⟩, fun hg => absurd (Or.inl h4) hg⟩)
  · refine Rn.step (pc' := 8) rfl rfl ?_
    refine Rn.ifc_lt (pc1 := 33) (pc2 := 11) rfl rfl rfl (fun h8 => ?_) (fun h8 => ?_)
    · refine Rn.iconst (v := (-100000)) (pc' := 35) rfl (by decide) rfl ?_
      exact Rn.iret rfl (rfl) (⟨fun _ => ⟨rfl, QG.rfl _ _ _ _ _ _⟩, fun hg => absurd (Or.inr (Or.inl (fun z => absurd h8 (Int32.not_lt.mpr z.1)))) hg⟩)
    · refine Rn.step (pc' := 12) rfl rfl ?_
      refine Rn.iconst (v := 9) (pc' := 14) rfl (by decide) rfl ?_
      refine Rn.icmp_gt (pc1 := 33) (pc2 := 17) rfl rfl rfl (fun h14 => ?_) (fun h14 => ?_)
      · refine Rn.iconst (v := (-100000)) (pc' := 35) rfl (by decide) rfl ?_
        exact Rn.iret rfl (rfl) (⟨fun _ => ⟨rfl, QG.rfl _ _ _ _ _ _⟩, fun hg => absurd (Or.inr (Or.inl (fun z => absurd h14 (Int32.not_lt.mpr z.2)))) hg⟩)
      · refine Rn.step (pc' := 18) rfl rfl ?_
        refine Rn.si (pc' := 21) rfl (by decide) (by omega) rfl rfl (c_O_isLending n) ?_
        refine Rn.ifp_eq (pc1 := 33) (pc2 := 24) rfl rfl rfl (fun h21 => ?_) (fun h21 => ?_)
        · refine Rn.iconst (v := (-100000)) (pc' := 35) rfl (by decide) rfl ?_
          exact Rn.iret rfl (rfl) (⟨fun _ => ⟨rfl, QG.rfl _ _ _ _ _ _⟩, fun hg => absurd (Or.inr (Or.inr (Or.inl h21))) hg⟩)
        · refine Rn.step (pc' := 25) rfl rfl ?_
          refine Rn.ifc_lt (pc1 := 33) (pc2 := 28) rfl rfl rfl (fun h25 => ?_) (fun h25 => ?_)
          · refine Rn.iconst (v := (-100000)) (pc' := 35) rfl (by decide) rfl ?_
            exact Rn.iret rfl (rfl) (⟨fun _ => ⟨rfl, QG.rfl _ _ _ _ _ _⟩, fun hg => absurd (Or.inr (Or.inr (Or.inr ((fun z => absurd h25 (Int32.not_lt.mpr z.1)))))) hg⟩)
          · refine Rn.step (pc' := 29) rfl rfl ?_
            refine Rn.iconst (v := 1) (pc' := 30) rfl (by decide) rfl ?_
            refine Rn.icmp_le (pc1 := 36) (pc2 := 33) rfl rfl rfl (fun h30 => ?_) (fun h30 => ?_)
            · obtain ⟨N, hN, rfl⟩ := xN (n := 24) (by decide) (by decide) (h21)
              have eN : (nI N).toNatClampNeg = N := nI_clamp (by omega)
              refine Rn.step (pc' := 37) rfl rfl ?_
              refine Rn.getf (pc' := 40) rfl rfl rfl rfl rfl ?_
              refine Rn.step (pc' := 41) rfl rfl ?_
              refine Rn.callV (pc' := 44) rfl (by decide) (by omega) rfl rfl rfl (c_O_ready ob) (fun r_ m_ hc_ => ?_)
              obtain ⟨rfl, H1, rfl, hH⟩ := hc_
              refine Rn.step (pc' := 45) rfl rfl ?_
              refine Rn.getf (pc' := 48) rfl rfl rfl rfl rfl ?_
              refine Rn.step (pc' := 49) rfl rfl ?_
              refine Rn.step (pc' := 50) rfl rfl ?_
              refine Rn.callV (pc' := 53) rfl (by decide) (by omega) rfl rfl rfl (c_T_sec (E := (fo, rl, -1, 0, Bn, Fn, Wn)) (gg := True) rfl (ob.hb h4 hH) ob.wr (ob.db.up (by omega)) (N := N) (by omega) rfl (by omega) x ⟨rdF F, I, L, rfl, tF.rfl _, tI.rfl _⟩) (fun r_ m_ hc_ => ?_)
              obtain ⟨rfl, F1, I1, L1, rfl, fs1, is1, hw⟩ := hc_
              refine Rn.step (pc' := 55) rfl rfl ?_
              refine Rn.step (pc' := 56) rfl rfl ?_
              refine Rn.ifc_ne (pc1 := 64) (pc2 := 59) rfl rfl rfl (fun h56 => ?_) (fun h56 => ?_)
              · refine Rn.step (pc' := 65) rfl rfl ?_
                refine Rn.getf (pc' := 68) rfl rfl rfl rfl rfl ?_
                refine Rn.getf (pc' := 71) rfl rfl rfl rfl rfl ?_
                exact Rn.iret rfl (rfl) (⟨fun hg => absurd hg (fun z => z.elim (fun c => c h4) (fun z => z.elim (fun c => c ⟨Int32.not_lt.mp h8, Int32.not_lt.mp h14⟩) (fun z => z.elim (fun c => c h21) (fun c => c ⟨Int32.not_lt.mp h25, h30⟩)))), fun _ => ⟨by
                    rw [eN, if_neg h56, ← hw], ⟨F1, I1, L1, H1, rfl, tq fs1, tqI is1⟩⟩⟩)
              · refine Rn.step (pc' := 61) rfl rfl ?_
                refine Rn.step (pc' := 71) rfl rfl ?_
                exact Rn.iret rfl (rfl) (⟨fun hg => absurd hg (fun z => z.elim (fun c => c h4) (fun z => z.elim (fun c => c ⟨Int32.not_lt.mp h8, Int32.not_lt.mp h14⟩) (fun z => z.elim (fun c => c h21) (fun c => c ⟨Int32.not_lt.mp h25, h30⟩)))), fun _ => ⟨by
                    rw [eN, if_pos h56], ⟨F1, I1, L1, H1, rfl, tq fs1, tqI is1⟩⟩⟩)
            · refine Rn.iconst (v := (-100000)) (pc' := 35) rfl (by decide) rfl ?_
              exact Rn.iret rfl (rfl) (⟨fun _ => ⟨rfl, QG.rfl _ _ _ _ _ _⟩, fun hg => absurd (Or.inr (Or.inr (Or.inr ((fun z => h30 z.2))))) hg⟩)
theorem ob_a {E : xEv} {s : Nat → Int32} {K : Nat} (hB : E.Bn ≤ 6) : fbN E s K (E.Bn + 1) < 128 := Nat.lt_of_lt_of_le (fbN_lt _ _ _ _) (p128 hB)
set_option maxHeartbeats 4000000 in
theorem c_O_feet {d : Nat} {P Bn Fn Wn K rn : Nat} {fo : Int32} {rl : xRl} (hd : 9 ≤ d) (ob : OB P Bn Fn Wn K rn fo rl s F I R m0) (y : Int32) : Cl d j_O_feet [.ref 0, .int y] (CC m0 F I L R H) (fun r m2 => (gFe s y → r = some (.int (-3)) ∧ QG m0 F I R m2) ∧ (¬ gFe s y → r = some (.int (aFe (fbN (fo, rl, -1, 0, Bn, Fn, Wn) s K (Bn + 1)) Bn y)) ∧ QG m0 F I R m2)) := by
  show Rn d j_O_feet 0 _ _ _ _
  refine Rn.step (pc' := 1) rfl rfl ?_
  refine Rn.vi (pc' := 4) rfl (by decide) (by omega) rfl rfl rfl (c_O_hasLane ob.lr.p) ?_
  refine Rn.ifp_eq (pc1 := 16) (pc2 := 7) rfl rfl rfl (fun h4 => ?_) (fun h4 => ?_)
  · refine Rn.iconst (v := (-3)) (pc' := 18) rfl (by decide) rfl ?_
    exact Rn.iret rfl (rfl) (⟨fun _ => ⟨rfl, QG.rfl _ _ _ _ _ _⟩, fun hg => absurd (Or.inl h4) hg⟩)
  · refine Rn.step (pc' := 8) rfl rfl ?_
    refine Rn.ifc_lt (pc1 := 16) (pc2 := 11) rfl rfl rfl (fun h8 => ?_) (fun h8 => ?_)
    · refine Rn.iconst (v := (-3)) (pc' := 18) rfl (by decide) rfl ?_
      exact Rn.iret rfl (rfl) (⟨fun _ => ⟨rfl, QG.rfl _ _ _ _ _ _⟩, fun hg => absurd (Or.inr ((fun z => absurd h8 (Int32.not_lt.mpr z.1)))) hg⟩)
    · refine Rn.step (pc' := 12) rfl rfl ?_
      refine Rn.iconst (v := 1) (pc' := 13) rfl (by decide) rfl ?_
      refine Rn.icmp_le (pc1 := 19) (pc2 := 16) rfl rfl rfl (fun h13 => ?_) (fun h13 => ?_)
      · have hb6 := ob.li.b6
        have ha : fbN (fo, rl, -1, 0, Bn, Fn, Wn) s K (Bn + 1) < 128 := ob_a (E := (fo, rl, -1, 0, Bn, Fn, Wn)) hb6
        have hlt : fbN (fo, rl, -1, 0, Bn, Fn, Wn) s K (Bn + 1) < 2 ^ (Bn + 1) := fbN_lt _ _ _ _
        have eft := ftG_eq Bn (by omega) (fbN (fo, rl, -1, 0, Bn, Fn, Wn) s K (Bn + 1)) hlt
        refine Rn.step (pc' := 20) rfl rfl ?_
        refine Rn.getf (pc' := 23) rfl rfl rfl rfl rfl ?_
        refine Rn.step (pc' := 24) rfl rfl ?_
        refine Rn.callV (pc' := 27) rfl (by decide) (by omega) rfl rfl rfl (c_O_ready ob) (fun r_ m_ hc_ => ?_)
        obtain ⟨rfl, H1, rfl, hH⟩ := hc_
        refine Rn.step (pc' := 28) rfl rfl ?_
        refine Rn.getf (pc' := 31) rfl rfl rfl rfl rfl ?_
        refine Rn.callV (pc' := 34) rfl (by decide) (by omega) rfl rfl rfl (c_T_agr (E := (fo, rl, -1, 0, Bn, Fn, Wn)) (K := K) (ob.hb h4 hH) rfl rfl ob.pr (by omega) ⟨rdF F, I, L, rfl, tF.rfl _, tI.rfl _⟩) (fun r_ m_ hc_ => ?_)
        obtain ⟨rfl, F1, I1, L1, rfl, fs1, is1, hlow⟩ := hc_
        refine Rn.step (pc' := 35) rfl rfl ?_
        refine Rn.step (pc' := 36) rfl rfl ?_
        refine Rn.ifc_ne (pc1 := 44) (pc2 := 39) rfl rfl rfl (fun h36 => ?_) (fun h36 => ?_)
        · refine Rn.step (pc' := 45) rfl rfl ?_
          refine Rn.ifc_ne (pc1 := 53) (pc2 := 48) rfl rfl rfl (fun h45 => ?_) (fun h45 => ?_)
          · refine Rn.step (pc' := 54) rfl rfl ?_
            refine Rn.getf (pc' := 57) rfl rfl rfl rfl rfl ?_
            refine Rn.getf (pc' := 60) rfl rfl rfl rfl rfl ?_
            exact Rn.iret rfl (rfl) (⟨fun hg => absurd hg (fun z => z.elim (fun c => c h4) (fun c => c ⟨Int32.not_lt.mp h8, h13⟩)), fun _ => ⟨by
                unfold aFe
                rw [if_neg h36, eft]
                have enz : fbN (fo, rl, -1, 0, Bn, Fn, Wn) s K (Bn + 1) ≠ 0 := fun z => h45 (by rw [show fbN (fo, rl, -1, 0, Bn, Fn, Wn) s K (xEv.Bn (fo, rl, -1, 0, Bn, Fn, Wn) + 1) = 0 from z]; rfl)
                show _ = some (Value.int (if fbN (fo, rl, -1, 0, Bn, Fn, Wn) s K (Bn + 1) = 0 then -2 else nI (lowb (fbN (fo, rl, -1, 0, Bn, Fn, Wn) s K (Bn + 1))) - 1))
                rw [if_neg enz]
                exact congrArg (fun z => some (Value.int z)) (hlow enz), ⟨F1, I1, L1, H1, rfl, tq fs1, tqI is1⟩⟩⟩)
          · refine Rn.iconst (v := (-2)) (pc' := 50) rfl (by decide) rfl ?_
            refine Rn.step (pc' := 60) rfl rfl ?_
            exact Rn.iret rfl (rfl) (⟨fun hg => absurd hg (fun z => z.elim (fun c => c h4) (fun c => c ⟨Int32.not_lt.mp h8, h13⟩)), fun _ => ⟨by
                unfold aFe
                rw [if_neg h36, eft]
                have ez : fbN (fo, rl, -1, 0, Bn, Fn, Wn) s K (Bn + 1) = 0 := (nI_eq (b := 0) (by omega) (by omega)).mp h45
                show _ = some (Value.int (if fbN (fo, rl, -1, 0, Bn, Fn, Wn) s K (Bn + 1) = 0 then -2 else nI (lowb (fbN (fo, rl, -1, 0, Bn, Fn, Wn) s K (Bn + 1))) - 1))
                rw [if_pos ez], ⟨F1, I1, L1, H1, rfl, tq fs1, tqI is1⟩⟩⟩)
        · refine Rn.step (pc' := 40) rfl rfl ?_
          refine Rn.si (pc' := 43) rfl (by decide) (by omega) rfl rfl (c_bitCount _) ?_
          exact Rn.iret rfl (rfl) (⟨fun hg => absurd hg (fun z => z.elim (fun c => c h4) (fun c => c ⟨Int32.not_lt.mp h8, h13⟩)), fun _ => ⟨by
              unfold aFe
              rw [if_pos h36, eft]
              exact congrArg (fun z => some (Value.int z)) (bcF_7 _ ha), ⟨F1, I1, L1, H1, rfl, tq fs1, tqI is1⟩⟩⟩)
      · refine Rn.iconst (v := (-3)) (pc' := 18) rfl (by decide) rfl ?_
        exact Rn.iret rfl (rfl) (⟨fun _ => ⟨rfl, QG.rfl _ _ _ _ _ _⟩, fun hg => absurd (Or.inr ((fun z => h13 z.2))) hg⟩)
end CO
