/-! THE CLASS: its reader of lanes: a clause, the whole; lane(). -/
section NG2
variable {m0 : xM} {F I : Nat → Nat → Int32} {L : Nat → Nat → Int64} {R : Nat → Nat → Option Nat} {H : Value} {s w : Nat → Int32} {o : Nat} {gg : Prop}
section V4
variable {T : Nat → Int32} {n p d : Nat} {q : Nat → Int32}
theorem m1_ne {x : Int32} (h : x = -1 ∨ 0 ≤ x) : x = -1 ↔ ¬ 0 ≤ x := by
  constructor
  · intro e z
    rw [e] at z
    exact absurd z (by decide)
  · intro z
    rcases h with e | e
    · exact e
    · exact absurd e z
/-- this clause may stand here -/
def okC (k : Nat) (fi : Prop) (q : Nat → Int32) : Prop := (fi ∧ k = 0) ∨ (¬ fi ∧ ((k = 1 ∧ ¬ q 2 = 6) ∨ k = 2 ∨ (k = 3 ∧ ¬ q 3 = 4) ∨ (k = 4 ∧ ¬ q 4 = 10) ∨ (k = 5 ∧ ¬ 0 ≤ q 8) ∨ (k = 6 ∧ ¬ 0 ≤ q 9)))
theorem c_L_may {PP Bn Fn Wn : Nat} {k : Nat} {fi : Prop} [Decidable fi] (hk : k ≤ 6) (hv : LV PP Bn Fn Wn q) (hq : LQ q F I) : Cl d j_Lane_mayStand [.ref 43, .int (nI k), .int (if fi then 1 else 0)] (CC m0 F I L R H) (fun o m2 => (okC k fi q → o = some (.int 1) ∧ m2 = (CC m0 F I L R H)) ∧ (¬ okC k fi q → o = some (.int 0) ∧ m2 = (CC m0 F I L R H))) := by
  rw [show LQ q F I = LG 10 Bn Fn Wn q (F 43) (I 44) (I 45) (I 46) (I 47) (I 48) by unfold LQ; rw [hv.c2, hv.c3, hv.c4]] at hq
  have b6 := hv.2.1.2
  have b4 := hv.2.2.1.2
  have b10 := hv.2.2.2.1.2
  by_cases hf : fi
  · obtain rfl | rfl | rfl | rfl | rfl | rfl | rfl : k = 0 ∨ k = 1 ∨ k = 2 ∨ k = 3 ∨ k = 4 ∨ k = 5 ∨ k = 6 := by omega
    all_goals rw [if_pos hf]
    · show Rn d j_Lane_mayStand 0 _ _ _ _
      refine Rn.step (pc' := 1) rfl rfl ?_
      refine Rn.ifc_ne (pc1 := 8) (pc2 := 4) rfl rfl rfl (fun h1 => ?_) (fun h1 => absurd h1 (fun z => absurd z (by decide)))
      refine Rn.step (pc' := 9) rfl rfl ?_
      refine Rn.ifc_eq (pc1 := 20) (pc2 := 12) rfl rfl rfl (fun h9 => absurd h9 (fun z => absurd z (by decide))) (fun h9 => ?_)
      refine Rn.step (pc' := 13) rfl rfl ?_
      refine Rn.ifc_ne (pc1 := 20) (pc2 := 16) rfl rfl rfl (fun h13 => absurd h13 (fun z => z rfl)) (fun h13 => ?_)
      refine Rn.iconst (v := 1) (pc' := 17) rfl (by decide) rfl ?_
      refine Rn.step (pc' := 21) rfl rfl ?_
      exact Rn.iret rfl (rfl) (⟨fun _ => ⟨rfl, rfl⟩, fun z => absurd (Or.inl ⟨hf, rfl⟩) z⟩)
    · show Rn d j_Lane_mayStand 0 _ _ _ _
      refine Rn.step (pc' := 1) rfl rfl ?_
      refine Rn.ifc_ne (pc1 := 8) (pc2 := 4) rfl rfl rfl (fun h1 => ?_) (fun h1 => absurd h1 (fun z => absurd z (by decide)))
      refine Rn.step (pc' := 9) rfl rfl ?_
      refine Rn.ifc_eq (pc1 := 20) (pc2 := 12) rfl rfl rfl (fun h9 => absurd h9 (fun z => absurd z (by decide))) (fun h9 => ?_)
      refine Rn.step (pc' := 13) rfl rfl ?_
      refine Rn.ifc_ne (pc1 := 20) (pc2 := 16) rfl rfl rfl (fun h13 => ?_) (fun h13 => absurd h13 (fun z => absurd z (by decide)))
      refine Rn.iconst (v := 0) (pc' := 21) rfl (by decide) rfl ?_
      exact Rn.iret rfl (rfl) (⟨fun z => absurd z (by unfold okC; rintro (⟨_, a⟩ | ⟨a, _⟩); exact absurd a (by decide); exact a hf), fun _ => ⟨rfl, rfl⟩⟩)
    · show Rn d j_Lane_mayStand 0 _ _ _ _
      refine Rn.step (pc' := 1) rfl rfl ?_
      refine Rn.ifc_ne (pc1 := 8) (pc2 := 4) rfl rfl rfl (fun h1 => ?_) (fun h1 => absurd h1 (fun z => absurd z (by decide)))
      refine Rn.step (pc' := 9) rfl rfl ?_
      refine Rn.ifc_eq (pc1 := 20) (pc2 := 12) rfl rfl rfl (fun h9 => absurd h9 (fun z => absurd z (by decide))) (fun h9 => ?_)
      refine Rn.step (pc' := 13) rfl rfl ?_
      refine Rn.ifc_ne (pc1 := 20) (pc2 := 16) rfl rfl rfl (fun h13 => ?_) (fun h13 => absurd h13 (fun z => absurd z (by decide)))
      refine Rn.iconst (v := 0) (pc' := 21) rfl (by decide) rfl ?_
      exact Rn.iret rfl (rfl) (⟨fun z => absurd z (by unfold okC; rintro (⟨_, a⟩ | ⟨a, _⟩); exact absurd a (by decide); exact a hf), fun _ => ⟨rfl, rfl⟩⟩)
    · show Rn d j_Lane_mayStand 0 _ _ _ _
      refine Rn.step (pc' := 1) rfl rfl ?_
      refine Rn.ifc_ne (pc1 := 8) (pc2 := 4) rfl rfl rfl (fun h1 => ?_) (fun h1 => absurd h1 (fun z => absurd z (by decide)))
      refine Rn.step (pc' := 9) rfl rfl ?_
      refine Rn.ifc_eq (pc1 := 20) (pc2 := 12) rfl rfl rfl (fun h9 => absurd h9 (fun z => absurd z (by decide))) (fun h9 => ?_)
      refine Rn.step (pc' := 13) rfl rfl ?_
      refine Rn.ifc_ne (pc1 := 20) (pc2 := 16) rfl rfl rfl (fun h13 => ?_) (fun h13 => absurd h13 (fun z => absurd z (by decide)))
      refine Rn.iconst (v := 0) (pc' := 21) rfl (by decide) rfl ?_
      exact Rn.iret rfl (rfl) (⟨fun z => absurd z (by unfold okC; rintro (⟨_, a⟩ | ⟨a, _⟩); exact absurd a (by decide); exact a hf), fun _ => ⟨rfl, rfl⟩⟩)
    · show Rn d j_Lane_mayStand 0 _ _ _ _
      refine Rn.step (pc' := 1) rfl rfl ?_
      refine Rn.ifc_ne (pc1 := 8) (pc2 := 4) rfl rfl rfl (fun h1 => ?_) (fun h1 => absurd h1 (fun z => absurd z (by decide)))
      refine Rn.step (pc' := 9) rfl rfl ?_
      refine Rn.ifc_eq (pc1 := 20) (pc2 := 12) rfl rfl rfl (fun h9 => absurd h9 (fun z => absurd z (by decide))) (fun h9 => ?_)
      refine Rn.step (pc' := 13) rfl rfl ?_
      refine Rn.ifc_ne (pc1 := 20) (pc2 := 16) rfl rfl rfl (fun h13 => ?_) (fun h13 => absurd h13 (fun z => absurd z (by decide)))
      refine Rn.iconst (v := 0) (pc' := 21) rfl (by decide) rfl ?_
      exact Rn.iret rfl (rfl) (⟨fun z => absurd z (by unfold okC; rintro (⟨_, a⟩ | ⟨a, _⟩); exact absurd a (by decide); exact a hf), fun _ => ⟨rfl, rfl⟩⟩)
    · show Rn d j_Lane_mayStand 0 _ _ _ _
      refine Rn.step (pc' := 1) rfl rfl ?_
      refine Rn.ifc_ne (pc1 := 8) (pc2 := 4) rfl rfl rfl (fun h1 => ?_) (fun h1 => absurd h1 (fun z => absurd z (by decide)))
      refine Rn.step (pc' := 9) rfl rfl ?_
      refine Rn.ifc_eq (pc1 := 20) (pc2 := 12) rfl rfl rfl (fun h9 => absurd h9 (fun z => absurd z (by decide))) (fun h9 => ?_)
      refine Rn.step (pc' := 13) rfl rfl ?_
      refine Rn.ifc_ne (pc1 := 20) (pc2 := 16) rfl rfl rfl (fun h13 => ?_) (fun h13 => absurd h13 (fun z => absurd z (by decide)))
      refine Rn.iconst (v := 0) (pc' := 21) rfl (by decide) rfl ?_
      exact Rn.iret rfl (rfl) (⟨fun z => absurd z (by unfold okC; rintro (⟨_, a⟩ | ⟨a, _⟩); exact absurd a (by decide); exact a hf), fun _ => ⟨rfl, rfl⟩⟩)
    · show Rn d j_Lane_mayStand 0 _ _ _ _
      refine Rn.step (pc' := 1) rfl rfl ?_
      refine Rn.ifc_ne (pc1 := 8) (pc2 := 4) rfl rfl rfl (fun h1 => ?_) (fun h1 => absurd h1 (fun z => absurd z (by decide)))
      refine Rn.step (pc' := 9) rfl rfl ?_
      refine Rn.ifc_eq (pc1 := 20) (pc2 := 12) rfl rfl rfl (fun h9 => absurd h9 (fun z => absurd z (by decide))) (fun h9 => ?_)
      refine Rn.step (pc' := 13) rfl rfl ?_
      refine Rn.ifc_ne (pc1 := 20) (pc2 := 16) rfl rfl rfl (fun h13 => ?_) (fun h13 => absurd h13 (fun z => absurd z (by decide)))
      refine Rn.iconst (v := 0) (pc' := 21) rfl (by decide) rfl ?_
      exact Rn.iret rfl (rfl) (⟨fun z => absurd z (by unfold okC; rintro (⟨_, a⟩ | ⟨a, _⟩); exact absurd a (by decide); exact a hf), fun _ => ⟨rfl, rfl⟩⟩)
  · obtain rfl | rfl | rfl | rfl | rfl | rfl | rfl : k = 0 ∨ k = 1 ∨ k = 2 ∨ k = 3 ∨ k = 4 ∨ k = 5 ∨ k = 6 := by omega
    all_goals rw [if_neg hf]
    · show Rn d j_Lane_mayStand 0 _ _ _ _
      refine Rn.step (pc' := 1) rfl rfl ?_
      refine Rn.ifc_ne (pc1 := 8) (pc2 := 4) rfl rfl rfl (fun h1 => absurd h1 (fun z => z rfl)) (fun h1 => ?_)
      refine Rn.step (pc' := 5) rfl rfl ?_
      refine Rn.ifc_ne (pc1 := 22) (pc2 := 8) rfl rfl rfl (fun h5 => absurd h5 (fun z => z rfl)) (fun h5 => ?_)
      refine Rn.step (pc' := 9) rfl rfl ?_
      refine Rn.ifc_eq (pc1 := 20) (pc2 := 12) rfl rfl rfl (fun h9 => ?_) (fun h9 => absurd (rfl) h9)
      refine Rn.iconst (v := 0) (pc' := 21) rfl (by decide) rfl ?_
      exact Rn.iret rfl (rfl) (⟨fun z => absurd z (by unfold okC; rintro (⟨a, _⟩ | ⟨_, a⟩); exact hf a; omega), fun _ => ⟨rfl, rfl⟩⟩)
    · show Rn d j_Lane_mayStand 0 _ _ _ _
      refine Rn.step (pc' := 1) rfl rfl ?_
      refine Rn.ifc_ne (pc1 := 8) (pc2 := 4) rfl rfl rfl (fun h1 => absurd h1 (fun z => z rfl)) (fun h1 => ?_)
      refine Rn.step (pc' := 5) rfl rfl ?_
      refine Rn.ifc_ne (pc1 := 22) (pc2 := 8) rfl rfl rfl (fun h5 => ?_) (fun h5 => absurd h5 (fun z => absurd z (by decide)))
      refine Rn.step (pc' := 23) rfl rfl ?_
      refine Rn.tsw (pc1 := 56) rfl (by decide) rfl rfl ?_
      refine Rn.step (pc' := 57) rfl rfl ?_
      refine Rn.getf (pc' := 60) rfl rfl rfl rfl rfl ?_
      refine Rn.iconst (v := 6) (pc' := 62) rfl (by decide) rfl ?_
      refine Rn.icmp_ge (pc1 := 69) (pc2 := 65) rfl rfl rfl (fun h62 => ?_) (fun h62 => ?_)
      · refine Rn.iconst (v := 0) (pc' := 70) rfl (by decide) rfl ?_
        exact Rn.iret rfl (rfl) (⟨fun z => absurd z (by unfold okC; rintro (⟨a, _⟩ | ⟨_, a⟩); exact hf a; rcases a with ⟨_, a⟩ | a | ⟨_, a⟩ | ⟨_, a⟩ | ⟨_, a⟩ | ⟨_, a⟩ <;> first | exact a (show q 2 = 6 by rw [show F 43 10 = q 2 from hq.2.2.2.2.1, hv.2.1.1] at h62; rw [hv.2.1.1, show Bn = 6 by have := (nI_leI (a := 6) (b := Bn) (by omega) (by omega)).mp h62; omega]; rfl) | omega), fun _ => ⟨rfl, rfl⟩⟩)
      · refine Rn.iconst (v := 1) (pc' := 66) rfl (by decide) rfl ?_
        refine Rn.step (pc' := 70) rfl rfl ?_
        exact Rn.iret rfl (rfl) (⟨fun _ => ⟨rfl, rfl⟩, fun z => absurd (Or.inr ⟨hf, Or.inl ⟨rfl, (fun e => h62 (by rw [show F 43 10 = q 2 from hq.2.2.2.2.1, e]; decide))⟩⟩) z⟩)
    · show Rn d j_Lane_mayStand 0 _ _ _ _
      refine Rn.step (pc' := 1) rfl rfl ?_
      refine Rn.ifc_ne (pc1 := 8) (pc2 := 4) rfl rfl rfl (fun h1 => absurd h1 (fun z => z rfl)) (fun h1 => ?_)
      refine Rn.step (pc' := 5) rfl rfl ?_
      refine Rn.ifc_ne (pc1 := 22) (pc2 := 8) rfl rfl rfl (fun h5 => ?_) (fun h5 => absurd h5 (fun z => absurd z (by decide)))
      refine Rn.step (pc' := 23) rfl rfl ?_
      refine Rn.tsw (pc1 := 71) rfl (by decide) rfl rfl ?_
      refine Rn.iconst (v := 1) (pc' := 72) rfl (by decide) rfl ?_
      exact Rn.iret rfl (rfl) (⟨fun _ => ⟨rfl, rfl⟩, fun z => absurd (Or.inr ⟨hf, Or.inr (Or.inl rfl)⟩) z⟩)
    · show Rn d j_Lane_mayStand 0 _ _ _ _
      refine Rn.step (pc' := 1) rfl rfl ?_
      refine Rn.ifc_ne (pc1 := 8) (pc2 := 4) rfl rfl rfl (fun h1 => absurd h1 (fun z => z rfl)) (fun h1 => ?_)
      refine Rn.step (pc' := 5) rfl rfl ?_
      refine Rn.ifc_ne (pc1 := 22) (pc2 := 8) rfl rfl rfl (fun h5 => ?_) (fun h5 => absurd h5 (fun z => absurd z (by decide)))
      refine Rn.step (pc' := 23) rfl rfl ?_
      refine Rn.tsw (pc1 := 73) rfl (by decide) rfl rfl ?_
      refine Rn.step (pc' := 74) rfl rfl ?_
      refine Rn.getf (pc' := 77) rfl rfl rfl rfl rfl ?_
      refine Rn.iconst (v := 4) (pc' := 78) rfl (by decide) rfl ?_
      refine Rn.icmp_ge (pc1 := 85) (pc2 := 81) rfl rfl rfl (fun h78 => ?_) (fun h78 => ?_)
      · refine Rn.iconst (v := 0) (pc' := 86) rfl (by decide) rfl ?_
        exact Rn.iret rfl (rfl) (⟨fun z => absurd z (by unfold okC; rintro (⟨a, _⟩ | ⟨_, a⟩); exact hf a; rcases a with ⟨_, a⟩ | a | ⟨_, a⟩ | ⟨_, a⟩ | ⟨_, a⟩ | ⟨_, a⟩ <;> first | exact a (show q 3 = 4 by rw [show F 43 11 = q 3 from hq.2.2.2.2.2.1, hv.2.2.1.1] at h78; rw [hv.2.2.1.1, show Fn = 4 by have := (nI_leI (a := 4) (b := Fn) (by omega) (by omega)).mp h78; omega]; rfl) | omega), fun _ => ⟨rfl, rfl⟩⟩)
      · refine Rn.iconst (v := 1) (pc' := 82) rfl (by decide) rfl ?_
        refine Rn.step (pc' := 86) rfl rfl ?_
        exact Rn.iret rfl (rfl) (⟨fun _ => ⟨rfl, rfl⟩, fun z => absurd (Or.inr ⟨hf, Or.inr (Or.inr (Or.inl ⟨rfl, (fun e => h78 (by rw [show F 43 11 = q 3 from hq.2.2.2.2.2.1, e]; decide))⟩))⟩) z⟩)
    · show Rn d j_Lane_mayStand 0 _ _ _ _
      refine Rn.step (pc' := 1) rfl rfl ?_
      refine Rn.ifc_ne (pc1 := 8) (pc2 := 4) rfl rfl rfl (fun h1 => absurd h1 (fun z => z rfl)) (fun h1 => ?_)
      refine Rn.step (pc' := 5) rfl rfl ?_
      refine Rn.ifc_ne (pc1 := 22) (pc2 := 8) rfl rfl rfl (fun h5 => ?_) (fun h5 => absurd h5 (fun z => absurd z (by decide)))
      refine Rn.step (pc' := 23) rfl rfl ?_
      refine Rn.tsw (pc1 := 87) rfl (by decide) rfl rfl ?_
      refine Rn.step (pc' := 88) rfl rfl ?_
      refine Rn.getf (pc' := 91) rfl rfl rfl rfl rfl ?_
      refine Rn.iconst (v := 10) (pc' := 93) rfl (by decide) rfl ?_
      refine Rn.icmp_ge (pc1 := 100) (pc2 := 96) rfl rfl rfl (fun h93 => ?_) (fun h93 => ?_)
      · refine Rn.iconst (v := 0) (pc' := 101) rfl (by decide) rfl ?_
        exact Rn.iret rfl (rfl) (⟨fun z => absurd z (by unfold okC; rintro (⟨a, _⟩ | ⟨_, a⟩); exact hf a; rcases a with ⟨_, a⟩ | a | ⟨_, a⟩ | ⟨_, a⟩ | ⟨_, a⟩ | ⟨_, a⟩ <;> first | exact a (show q 4 = 10 by rw [show F 43 12 = q 4 from hq.2.2.2.2.2.2.1, hv.2.2.2.1.1] at h93; rw [hv.2.2.2.1.1, show Wn = 10 by have := (nI_leI (a := 10) (b := Wn) (by omega) (by omega)).mp h93; omega]; rfl) | omega), fun _ => ⟨rfl, rfl⟩⟩)
      · refine Rn.iconst (v := 1) (pc' := 97) rfl (by decide) rfl ?_
        refine Rn.step (pc' := 101) rfl rfl ?_
        exact Rn.iret rfl (rfl) (⟨fun _ => ⟨rfl, rfl⟩, fun z => absurd (Or.inr ⟨hf, Or.inr (Or.inr (Or.inr (Or.inl ⟨rfl, (fun e => h93 (by rw [show F 43 12 = q 4 from hq.2.2.2.2.2.2.1, e]; decide))⟩)))⟩) z⟩)
    · show Rn d j_Lane_mayStand 0 _ _ _ _
      refine Rn.step (pc' := 1) rfl rfl ?_
      refine Rn.ifc_ne (pc1 := 8) (pc2 := 4) rfl rfl rfl (fun h1 => absurd h1 (fun z => z rfl)) (fun h1 => ?_)
      refine Rn.step (pc' := 5) rfl rfl ?_
      refine Rn.ifc_ne (pc1 := 22) (pc2 := 8) rfl rfl rfl (fun h5 => ?_) (fun h5 => absurd h5 (fun z => absurd z (by decide)))
      refine Rn.step (pc' := 23) rfl rfl ?_
      refine Rn.tsw (pc1 := 102) rfl (by decide) rfl rfl ?_
      refine Rn.step (pc' := 103) rfl rfl ?_
      refine Rn.getf (pc' := 106) rfl rfl rfl rfl rfl ?_
      refine Rn.iconst (v := (-1)) (pc' := 107) rfl (by decide) rfl ?_
      refine Rn.icmp_ne (pc1 := 114) (pc2 := 110) rfl rfl rfl (fun h107 => ?_) (fun h107 => ?_)
      · refine Rn.iconst (v := 0) (pc' := 115) rfl (by decide) rfl ?_
        exact Rn.iret rfl (rfl) (⟨fun z => absurd z (by unfold okC; rintro (⟨a, _⟩ | ⟨_, a⟩); exact hf a; rcases a with ⟨_, a⟩ | a | ⟨_, a⟩ | ⟨_, a⟩ | ⟨_, a⟩ | ⟨_, a⟩ <;> first | exact a (Classical.byContradiction fun y => h107 (by rw [(show F 43 8 = q 8 from hq.2.2.1)]; exact (m1_ne hv.2.2.2.2.2.2.2.2.1).mpr y)) | omega), fun _ => ⟨rfl, rfl⟩⟩)
      · refine Rn.iconst (v := 1) (pc' := 111) rfl (by decide) rfl ?_
        refine Rn.step (pc' := 115) rfl rfl ?_
        exact Rn.iret rfl (rfl) (⟨fun _ => ⟨rfl, rfl⟩, fun z => absurd (Or.inr ⟨hf, Or.inr (Or.inr (Or.inr (Or.inr (Or.inl ⟨rfl, (m1_ne hv.2.2.2.2.2.2.2.2.1).mp (by rw [← (show F 43 8 = q 8 from hq.2.2.1)]; exact h107)⟩))))⟩) z⟩)
    · show Rn d j_Lane_mayStand 0 _ _ _ _
      refine Rn.step (pc' := 1) rfl rfl ?_
      refine Rn.ifc_ne (pc1 := 8) (pc2 := 4) rfl rfl rfl (fun h1 => absurd h1 (fun z => z rfl)) (fun h1 => ?_)
      refine Rn.step (pc' := 5) rfl rfl ?_
      refine Rn.ifc_ne (pc1 := 22) (pc2 := 8) rfl rfl rfl (fun h5 => ?_) (fun h5 => absurd h5 (fun z => absurd z (by decide)))
      refine Rn.step (pc' := 23) rfl rfl ?_
      refine Rn.tsd (pc1 := 116) rfl (by decide) rfl ?_
      refine Rn.step (pc' := 117) rfl rfl ?_
      refine Rn.getf (pc' := 120) rfl rfl rfl rfl rfl ?_
      refine Rn.iconst (v := (-1)) (pc' := 121) rfl (by decide) rfl ?_
      refine Rn.icmp_ne (pc1 := 128) (pc2 := 124) rfl rfl rfl (fun h121 => ?_) (fun h121 => ?_)
      · refine Rn.iconst (v := 0) (pc' := 129) rfl (by decide) rfl ?_
        exact Rn.iret rfl (rfl) (⟨fun z => absurd z (by unfold okC; rintro (⟨a, _⟩ | ⟨_, a⟩); exact hf a; rcases a with ⟨_, a⟩ | a | ⟨_, a⟩ | ⟨_, a⟩ | ⟨_, a⟩ | ⟨_, a⟩ <;> first | exact a (Classical.byContradiction fun y => h121 (by rw [(show F 43 9 = q 9 from hq.2.2.2.1)]; exact (m1_ne hv.2.2.2.2.2.2.2.2.2).mpr y)) | omega), fun _ => ⟨rfl, rfl⟩⟩)
      · refine Rn.iconst (v := 1) (pc' := 125) rfl (by decide) rfl ?_
        refine Rn.step (pc' := 129) rfl rfl ?_
        exact Rn.iret rfl (rfl) (⟨fun _ => ⟨rfl, rfl⟩, fun z => absurd (Or.inr ⟨hf, Or.inr (Or.inr (Or.inr (Or.inr (Or.inr (⟨rfl, (m1_ne hv.2.2.2.2.2.2.2.2.2).mp (by rw [← (show F 43 9 = q 9 from hq.2.2.2.1)]; exact h121)⟩)))))⟩) z⟩)
theorem gXC_ret {x : gX} {o : Option Value} {m2 : xM} (h : gXC m0 F I L R H T n x o m2) : ∃ b : Int32, o = some (.int b) ∧ (b = 0 ∨ b = 1) := by
  obtain ⟨F1, I1, _, _, g⟩ := h
  cases x with
  | inl e => exact ⟨0, g.1, Or.inl rfl⟩
  | inr s => exact ⟨1, g.1, Or.inr rfl⟩
theorem gXC_nar {b : Int32} {x : gX} {m2 : xM} (h : gXC m0 F I L R H T n x (some (.int b)) m2) : narrow .boolean (.int b) = .int b := by
  obtain ⟨b', e, h2⟩ := gXC_ret h
  obtain rfl : b = b' := by injection e with e; injection e
  rcases h2 with rfl | rfl <;> rfl
/-- the clause of word k, when it may stand -/
def gLk (T : Nat → Int32) (n k : Nat) (s : gT) : gX := if k = 0 then gL1 T n s else if k = 1 then gL2 T n (10 + 6 * cN (s.2 2)) s else if k = 2 then gL3 T n s else if k = 3 then gL4 T n (52 + 2 * cN (s.2 3)) s else if k = 4 then gL5 T n (60 + 4 * cN (s.2 4)) s else if k = 5 then gNu T n 1 99 8 s else gNu T n 0 (s.2 0 - 1) 9 s
theorem gLw_k {k : Nat} (hk : k ≤ 6) (h : okC k (q 0 = 0) q) (hp : q 0 = 0 ∨ 0 < q 0) : gLw T n p k q = gLk T n k (nxE T n p, q) := by
  unfold gLw gLk okC at *
  rcases h with ⟨h0, rfl⟩ | ⟨h0, h⟩
  · rw [if_pos rfl, if_pos rfl, if_neg (fun z => by rw [h0] at z; exact absurd z (by decide))]
  · rcases h with ⟨rfl, h⟩ | rfl | ⟨rfl, h⟩ | ⟨rfl, h⟩ | ⟨rfl, h⟩ | ⟨rfl, h⟩
    · rw [if_neg (by decide), if_neg h0, if_pos rfl, if_neg h, if_neg (by decide), if_pos rfl]
    · rw [if_neg (by decide), if_neg h0, if_neg (by decide), if_pos rfl, if_neg (by decide), if_neg (by decide), if_pos rfl]
    · rw [if_neg (by decide), if_neg h0, if_neg (by decide), if_neg (by decide), if_pos rfl, if_neg h, if_neg (by decide), if_neg (by decide), if_neg (by decide), if_pos rfl]
    · rw [if_neg (by decide), if_neg h0, if_neg (by decide), if_neg (by decide), if_neg (by decide), if_pos rfl, if_neg h, if_neg (by decide), if_neg (by decide), if_neg (by decide), if_neg (by decide), if_pos rfl]
    · rw [if_neg (by decide), if_neg h0, if_neg (by decide), if_neg (by decide), if_neg (by decide), if_neg (by decide), if_pos rfl, if_neg h, if_neg (by decide), if_neg (by decide), if_neg (by decide), if_neg (by decide), if_neg (by decide), if_pos rfl]
    · rw [if_neg (by decide), if_neg h0, if_neg (by decide), if_neg (by decide), if_neg (by decide), if_neg (by decide), if_neg (by decide), if_neg h, if_neg (by decide), if_neg (by decide), if_neg (by decide), if_neg (by decide), if_neg (by decide), if_neg (by decide)]
theorem gLw_4 {k : Nat} (hk : k ≤ 6) (h : ¬ okC k (q 0 = 0) q) (hp : q 0 = 0 ∨ 0 < q 0) : gLw T n p k q = gF4 p := by
  unfold gLw
  unfold okC at h
  by_cases k0 : k = 0
  · rw [if_pos k0, if_pos (hp.resolve_left (fun z => h (Or.inl ⟨z, k0⟩)))]
  · rw [if_neg k0]
    by_cases h0 : q 0 = 0
    · rw [if_pos h0]
    · rw [if_neg h0]
      by_cases k1 : k = 1
      · rw [if_pos k1, if_pos (Classical.byContradiction fun z => h (Or.inr ⟨h0, Or.inl ⟨k1, z⟩⟩))]
      · rw [if_neg k1]
        by_cases k2 : k = 2
        · exact absurd (Or.inr ⟨h0, Or.inr (Or.inl k2)⟩) h
        · rw [if_neg k2]
          by_cases k3 : k = 3
          · rw [if_pos k3, if_pos (Classical.byContradiction fun z => h (Or.inr ⟨h0, Or.inr (Or.inr (Or.inl ⟨k3, z⟩))⟩))]
          · rw [if_neg k3]
            by_cases k4 : k = 4
            · rw [if_pos k4, if_pos (Classical.byContradiction fun z => h (Or.inr ⟨h0, Or.inr (Or.inr (Or.inr (Or.inl ⟨k4, z⟩)))⟩))]
            · rw [if_neg k4]
              by_cases k5 : k = 5
              · rw [if_pos k5, if_pos (Classical.byContradiction fun z => h (Or.inr ⟨h0, Or.inr (Or.inr (Or.inr (Or.inr (Or.inl ⟨k5, z⟩))))⟩))]
              · rw [if_neg k5, if_pos (Classical.byContradiction fun z => h (Or.inr ⟨h0, Or.inr (Or.inr (Or.inr (Or.inr (Or.inr ⟨by omega, z⟩))))⟩))]
theorem c_L_cl {PP Bn Fn Wn : Nat} {k : Nat} (hd : 4 ≤ d) (hI : I 2 = T) (tp : TP (F 1) T n p) (hp : p ≤ n) (h4 : n ≤ 400) (hv : LV PP Bn Fn Wn q) (hq : LQ q F I) (hk : k ≤ 6) (hok : okC k (q 0 = 0) q) : Cl d j_Lane_readClause [.ref 43, .ref 1, .int (nI k)] (CC m0 F I L R H) (gXC m0 F I L R H T n (gLk T n k (p, q))) := by
  obtain rfl | rfl | rfl | rfl | rfl | rfl | rfl : k = 0 ∨ k = 1 ∨ k = 2 ∨ k = 3 ∨ k = 4 ∨ k = 5 ∨ k = 6 := by omega
  · rw [show gLk T n 0 (p, q) = gL1 T n (p, q) from rfl]
    show Rn d j_Lane_readClause 0 _ _ _ _
    refine Rn.step (pc' := 1) rfl rfl ?_
    refine Rn.tsw (pc1 := 40) rfl (by decide) rfl rfl ?_
    refine Rn.step (pc' := 41) rfl rfl ?_
    refine Rn.step (pc' := 42) rfl rfl ?_
    refine Rn.callV (pc' := 45) rfl (by decide) (by omega) rfl rfl rfl (c_L_1 (by omega) hI tp hp h4 hv hq) (fun r_ m_ hc_ => ?_)
    obtain ⟨b, e, _⟩ := gXC_ret hc_
    subst e
    exact Rn.iret rfl (gXC_nar hc_) hc_
  · have hok : ¬ q 2 = 6 := by unfold okC at hok; rcases hok with ⟨_, a⟩ | ⟨_, a⟩; exact absurd a (by decide); rcases a with ⟨_, a⟩ | a | ⟨a, _⟩ | ⟨a, _⟩ | ⟨a, _⟩ | ⟨a, _⟩ <;> first | exact a | exact absurd a (by decide)
    rw [show gLk T n 1 (p, q) = gL2 T n (10 + 6 * cN (q 2)) (p, q) from rfl, hv.c2]
    show Rn d j_Lane_readClause 0 _ _ _ _
    refine Rn.step (pc' := 1) rfl rfl ?_
    refine Rn.tsw (pc1 := 46) rfl (by decide) rfl rfl ?_
    refine Rn.step (pc' := 47) rfl rfl ?_
    refine Rn.step (pc' := 48) rfl rfl ?_
    refine Rn.callV (pc' := 51) rfl (by decide) (by omega) rfl rfl rfl (c_L_2 (by omega) hI tp hp h4 hv hq (hv.n2 hok)) (fun r_ m_ hc_ => ?_)
    obtain ⟨b, e, _⟩ := gXC_ret hc_
    subst e
    exact Rn.iret rfl (gXC_nar hc_) hc_
  · rw [show gLk T n 2 (p, q) = gL3 T n (p, q) from rfl]
    show Rn d j_Lane_readClause 0 _ _ _ _
    refine Rn.step (pc' := 1) rfl rfl ?_
    refine Rn.tsw (pc1 := 52) rfl (by decide) rfl rfl ?_
    refine Rn.step (pc' := 53) rfl rfl ?_
    refine Rn.step (pc' := 54) rfl rfl ?_
    refine Rn.callV (pc' := 57) rfl (by decide) (by omega) rfl rfl rfl (c_L_3 (by omega) hI tp hp h4 hv hq) (fun r_ m_ hc_ => ?_)
    obtain ⟨b, e, _⟩ := gXC_ret hc_
    subst e
    exact Rn.iret rfl (gXC_nar hc_) hc_
  · have hok : ¬ q 3 = 4 := by unfold okC at hok; rcases hok with ⟨_, a⟩ | ⟨_, a⟩; exact absurd a (by decide); rcases a with ⟨a, _⟩ | a | ⟨_, a⟩ | ⟨a, _⟩ | ⟨a, _⟩ | ⟨a, _⟩ <;> first | exact a | exact absurd a (by decide)
    rw [show gLk T n 3 (p, q) = gL4 T n (52 + 2 * cN (q 3)) (p, q) from rfl, hv.c3]
    show Rn d j_Lane_readClause 0 _ _ _ _
    refine Rn.step (pc' := 1) rfl rfl ?_
    refine Rn.tsw (pc1 := 58) rfl (by decide) rfl rfl ?_
    refine Rn.step (pc' := 59) rfl rfl ?_
    refine Rn.step (pc' := 60) rfl rfl ?_
    refine Rn.callV (pc' := 63) rfl (by decide) (by omega) rfl rfl rfl (c_L_4 (by omega) hI tp hp h4 hv hq (hv.n3 hok)) (fun r_ m_ hc_ => ?_)
    obtain ⟨b, e, _⟩ := gXC_ret hc_
    subst e
    exact Rn.iret rfl (gXC_nar hc_) hc_
  · have hok : ¬ q 4 = 10 := by unfold okC at hok; rcases hok with ⟨_, a⟩ | ⟨_, a⟩; exact absurd a (by decide); rcases a with ⟨a, _⟩ | a | ⟨a, _⟩ | ⟨_, a⟩ | ⟨a, _⟩ | ⟨a, _⟩ <;> first | exact a | exact absurd a (by decide)
    rw [show gLk T n 4 (p, q) = gL5 T n (60 + 4 * cN (q 4)) (p, q) from rfl, hv.c4]
    show Rn d j_Lane_readClause 0 _ _ _ _
    refine Rn.step (pc' := 1) rfl rfl ?_
    refine Rn.tsw (pc1 := 64) rfl (by decide) rfl rfl ?_
    refine Rn.step (pc' := 65) rfl rfl ?_
    refine Rn.step (pc' := 66) rfl rfl ?_
    refine Rn.callV (pc' := 69) rfl (by decide) (by omega) rfl rfl rfl (c_L_5 (by omega) hI tp hp h4 hv hq (hv.n4 hok)) (fun r_ m_ hc_ => ?_)
    obtain ⟨b, e, _⟩ := gXC_ret hc_
    subst e
    exact Rn.iret rfl (gXC_nar hc_) hc_
  · rw [show gLk T n 5 (p, q) = gNu T n 1 99 8 (p, q) from rfl]
    show Rn d j_Lane_readClause 0 _ _ _ _
    refine Rn.step (pc' := 1) rfl rfl ?_
    refine Rn.tsw (pc1 := 70) rfl (by decide) rfl rfl ?_
    refine Rn.step (pc' := 71) rfl rfl ?_
    refine Rn.step (pc' := 72) rfl rfl ?_
    refine Rn.iconst (v := 0) (pc' := 73) rfl (by decide) rfl ?_
    refine Rn.iconst (v := 1) (pc' := 74) rfl (by decide) rfl ?_
    refine Rn.iconst (v := 99) (pc' := 76) rfl (by decide) rfl ?_
    refine Rn.callV (pc' := 79) rfl (by decide) (by omega) rfl rfl rfl (c_L_num (to := 0) (by omega) hI tp hp h4 (by omega)) (fun r_ m_ hc_ => ?_)
    by_cases kA : kdE T n p = 2
    rotate_left
    · obtain ⟨rfl, f1, rfl, e1⟩ := hc_.1 kA
      rw [show gNu T n 1 99 8 (p, q) = .inl (1 + 8 * p + 0) from if_neg kA]
      refine Rn.ifc_ne (pc1 := 84) (pc2 := 82) rfl rfl rfl (fun h79 => absurd h79 (fun z => z rfl)) (fun h79 => ?_)
      refine Rn.iconst (v := 0) (pc' := 83) rfl (by decide) rfl ?_
      exact Rn.iret rfl (rfl) (gXC.bad ((cFL.rfl F I).f1 f1) e1)
    by_cases nA : nbE T n p 1 99
    rotate_left
    · obtain ⟨rfl, f1, rfl, e1⟩ := (hc_.2 kA).1 nA
      rw [show gNu T n 1 99 8 (p, q) = .inl (1 + 8 * p + 1) from (if_pos kA).trans (if_neg nA)]
      refine Rn.ifc_ne (pc1 := 84) (pc2 := 82) rfl rfl rfl (fun h79 => absurd h79 (fun z => z rfl)) (fun h79 => ?_)
      refine Rn.iconst (v := 0) (pc' := 83) rfl (by decide) rfl ?_
      exact Rn.iret rfl (rfl) (gXC.bad ((cFL.rfl F I).f1 f1) e1)
    obtain ⟨rfl, f2, rfl, t2⟩ := (hc_.2 kA).2 nA
    have t2k := nx_p kA
    rw [show gNu T n 1 99 8 (p, q) = .inr (nxE T n p, upd ((p, q)).2 8 (vlE T n p)) from (if_pos kA).trans (if_pos nA)]
    clear hc_
    refine Rn.ifc_ne (pc1 := 84) (pc2 := 82) rfl rfl rfl (fun h79 => ?_) (fun h79 => absurd h79 (fun z => absurd z (by decide)))
    refine Rn.step (pc' := 85) rfl rfl ?_
    refine Rn.step (pc' := 86) rfl rfl ?_
    refine Rn.getf (pc' := 89) rfl rfl rfl rfl rfl ?_
    refine Rn.iconst (v := 0) (pc' := 90) rfl (by decide) rfl ?_
    refine Rn.cald (k := 0) (pc' := 91) rfl rfl (by simp only [nI_lit, nI_add, pk_mul, Nat.zero_add]) (by omega) ((rfl : _ = vlE T n p)) (by decide) rfl ?_
    refine Rn.cput (pc' := 94) rfl rfl rfl rfl rfl (by decide) rfl ?_
    refine Rn.iconst (v := 1) (pc' := 95) rfl (by decide) rfl ?_
    refine Rn.iret rfl rfl (⟨_, _, rfl, (((cFL.rfl F I).f1 f2).ii _ (by omega)).f43 _, rfl, t2, ?_⟩)
    have hN : ∀ j, j ≠ 8 → (upd q 8 (vlE T n p)) j = q j := fun j h1 => upN _ _ h1
    show LG 10 (cN ((upd q 8 (vlE T n p)) 2)) (cN ((upd q 8 (vlE T n p)) 3)) (cN ((upd q 8 (vlE T n p)) 4)) (upd q 8 (vlE T n p)) _ _ _ _ _ _
    rw [hN 2 (by omega), hN 3 (by omega), hN 4 (by omega), hv.c2, hv.c3, hv.c4]
    have b6 := hv.2.1.2
    have b4 := hv.2.2.1.2
    have b10 := hv.2.2.2.1.2
    rw [show LQ q F I = LG 10 Bn Fn Wn q (F 43) (I 44) (I 45) (I 46) (I 47) (I 48) by unfold LQ; rw [hv.c2, hv.c3, hv.c4]] at hq
    obtain ⟨l1, l2, l3, l4, l5, l6, l7, l8, l9, l10, l11, l12⟩ := hq
    exact ⟨l1.trans (hN _ (by omega)).symm, l2.trans (hN _ (by omega)).symm, rfl, l4.trans (hN _ (by omega)).symm, l5.trans (hN _ (by omega)).symm, l6.trans (hN _ (by omega)).symm, l7.trans (hN _ (by omega)).symm, fun y hy => (l8 y hy).trans (hN _ (by omega)).symm, fun y hy => (l9 y hy).trans (hN _ (by omega)).symm, fun y hy => (l10 y hy).trans (hN _ (by omega)).symm, fun y hy => (l11 y hy).trans (hN _ (by omega)).symm, fun y hy => (l12 y hy).trans (hN _ (by omega)).symm⟩
  · rw [show gLk T n 6 (p, q) = gNu T n 0 (q 0 - 1) 9 (p, q) from rfl]
    show Rn d j_Lane_readClause 0 _ _ _ _
    refine Rn.step (pc' := 1) rfl rfl ?_
    refine Rn.tsd (pc1 := 96) rfl (by decide) rfl ?_
    refine Rn.step (pc' := 97) rfl rfl ?_
    refine Rn.step (pc' := 98) rfl rfl ?_
    refine Rn.iconst (v := 0) (pc' := 99) rfl (by decide) rfl ?_
    refine Rn.iconst (v := 0) (pc' := 100) rfl (by decide) rfl ?_
    refine Rn.step (pc' := 101) rfl rfl ?_
    refine Rn.getf (pc' := 104) rfl rfl rfl rfl rfl ?_
    refine Rn.iconst (v := 1) (pc' := 105) rfl (by decide) rfl ?_
    refine Rn.isub (pc' := 106) rfl rfl ?_
    refine Rn.callV (pc' := 109) rfl (by decide) (by omega) rfl rfl rfl (by rw [show F 43 6 - 1 = q 0 - 1 by rw [hq.1]]; exact c_L_num (to := 0) (by omega) hI tp hp h4 (by omega)) (fun r_ m_ hc_ => ?_)
    by_cases kA : kdE T n p = 2
    rotate_left
    · obtain ⟨rfl, f1, rfl, e1⟩ := hc_.1 kA
      rw [show gNu T n 0 (q 0 - 1) 9 (p, q) = .inl (1 + 8 * p + 0) from if_neg kA]
      refine Rn.ifc_ne (pc1 := 114) (pc2 := 112) rfl rfl rfl (fun h109 => absurd h109 (fun z => z rfl)) (fun h109 => ?_)
      refine Rn.iconst (v := 0) (pc' := 113) rfl (by decide) rfl ?_
      exact Rn.iret rfl (rfl) (gXC.bad ((cFL.rfl F I).f1 f1) e1)
    by_cases nA : nbE T n p 0 (q 0 - 1)
    rotate_left
    · obtain ⟨rfl, f1, rfl, e1⟩ := (hc_.2 kA).1 nA
      rw [show gNu T n 0 (q 0 - 1) 9 (p, q) = .inl (1 + 8 * p + 1) from (if_pos kA).trans (if_neg nA)]
      refine Rn.ifc_ne (pc1 := 114) (pc2 := 112) rfl rfl rfl (fun h109 => absurd h109 (fun z => z rfl)) (fun h109 => ?_)
      refine Rn.iconst (v := 0) (pc' := 113) rfl (by decide) rfl ?_
      exact Rn.iret rfl (rfl) (gXC.bad ((cFL.rfl F I).f1 f1) e1)
    obtain ⟨rfl, f2, rfl, t2⟩ := (hc_.2 kA).2 nA
    have t2k := nx_p kA
    rw [show gNu T n 0 (q 0 - 1) 9 (p, q) = .inr (nxE T n p, upd ((p, q)).2 9 (vlE T n p)) from (if_pos kA).trans (if_pos nA)]
    clear hc_
    refine Rn.ifc_ne (pc1 := 114) (pc2 := 112) rfl rfl rfl (fun h109 => ?_) (fun h109 => absurd h109 (fun z => absurd z (by decide)))
    refine Rn.step (pc' := 115) rfl rfl ?_
    refine Rn.step (pc' := 116) rfl rfl ?_
    refine Rn.getf (pc' := 119) rfl rfl rfl rfl rfl ?_
    refine Rn.iconst (v := 0) (pc' := 120) rfl (by decide) rfl ?_
    refine Rn.cald (k := 0) (pc' := 121) rfl rfl (by simp only [nI_lit, nI_add, pk_mul, Nat.zero_add]) (by omega) ((rfl : _ = vlE T n p)) (by decide) rfl ?_
    refine Rn.cput (pc' := 124) rfl rfl rfl rfl rfl (by decide) rfl ?_
    refine Rn.iconst (v := 1) (pc' := 125) rfl (by decide) rfl ?_
    refine Rn.iret rfl rfl (⟨_, _, rfl, (((cFL.rfl F I).f1 f2).ii _ (by omega)).f43 _, rfl, t2, ?_⟩)
    have hN : ∀ j, j ≠ 9 → (upd q 9 (vlE T n p)) j = q j := fun j h1 => upN _ _ h1
    show LG 10 (cN ((upd q 9 (vlE T n p)) 2)) (cN ((upd q 9 (vlE T n p)) 3)) (cN ((upd q 9 (vlE T n p)) 4)) (upd q 9 (vlE T n p)) _ _ _ _ _ _
    rw [hN 2 (by omega), hN 3 (by omega), hN 4 (by omega), hv.c2, hv.c3, hv.c4]
    have b6 := hv.2.1.2
    have b4 := hv.2.2.1.2
    have b10 := hv.2.2.2.1.2
    rw [show LQ q F I = LG 10 Bn Fn Wn q (F 43) (I 44) (I 45) (I 46) (I 47) (I 48) by unfold LQ; rw [hv.c2, hv.c3, hv.c4]] at hq
    obtain ⟨l1, l2, l3, l4, l5, l6, l7, l8, l9, l10, l11, l12⟩ := hq
    exact ⟨l1.trans (hN _ (by omega)).symm, l2.trans (hN _ (by omega)).symm, l3.trans (hN _ (by omega)).symm, rfl, l5.trans (hN _ (by omega)).symm, l6.trans (hN _ (by omega)).symm, l7.trans (hN _ (by omega)).symm, fun y hy => (l8 y hy).trans (hN _ (by omega)).symm, fun y hy => (l9 y hy).trans (hN _ (by omega)).symm, fun y hy => (l10 y hy).trans (hN _ (by omega)).symm, fun y hy => (l11 y hy).trans (hN _ (by omega)).symm, fun y hy => (l12 y hy).trans (hN _ (by omega)).symm⟩
end V4
end NG2
