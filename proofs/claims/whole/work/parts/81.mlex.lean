/-! THE MODEL: its reader, over the same text: see, isDigit, isLetter, fails, passWord. -/
section ML
variable {m0 : xM} {v : Nat → Int32} {dx : Int64} {A : Nat → Nat → Int32} {LA : Nat → Nat → Int64} {s : Nat → Int32}
theorem updO (f : Nat → Int32) (k : Nat) (a b : Int32) : upd (upd f k a) k b = upd f k b := by
  funext j
  by_cases h : j = k
  · subst h
    exact (if_pos rfl).trans (if_pos rfl).symm
  · exact (if_neg h).trans ((if_neg h).trans (if_neg h).symm)
theorem updI {f : Nat → Int32} {k : Nat} {a : Int32} (h : f k = a) : upd f k a = f := by
  funext j
  by_cases e : j = k
  · subst e
    exact (if_pos rfl).trans h.symm
  · exact if_neg e
/-- the byte that the model sees at p -/
def cuE (T : Nat → Int32) (n p : Nat) : Int32 := if p < n then fcE T p else -1
theorem x_M_isDigit {d n k : Nat} (hn : v 1 = nI n) (h4 : n ≤ 400) (hk4 : k ≤ 1000) : Cl d j_M_isDigit [.ref 50, .int (nI k)] (MM m0 v dx A LA) (Pi (if k < n ∧ 48 ≤ A 51 k ∧ A 51 k ≤ 57 then 1 else 0) (MM m0 v dx A LA)) := by
  show Rn d j_M_isDigit 0 _ _ _ _
  refine Rn.step (pc' := 1) rfl rfl ?_
  refine Rn.step (pc' := 2) rfl rfl ?_
  refine Rn.getf (pc' := 5) rfl rfl rfl rfl rfl ?_
  refine Rn.icmp_ge (pc1 := 34) (pc2 := 8) rfl rfl rfl (fun h5 => ?_) (fun h5 => ?_)
  · refine Rn.iconst (v := 0) (pc' := 35) rfl (by decide) rfl ?_
    exact Rn.iret rfl (rfl) (⟨by rw [if_neg (fun z => absurd ((nI_leI (a := n) (b := k) (by omega) (by omega)).mp (by rw [← hn]; exact h5)) (by omega))], rfl⟩)
  · have hk : k < n := by
      have := mt (nI_leI (a := n) (b := k) (by omega) (by omega)).mpr (by rw [← hn]; exact h5)
      omega
    refine Rn.step (pc' := 9) rfl rfl ?_
    refine Rn.getf (pc' := 12) rfl rfl rfl rfl rfl ?_
    refine Rn.step (pc' := 13) rfl rfl ?_
    refine Rn.mbald (k := k) (pc' := 14) rfl rfl (by decide) (rfl) (by omega) (by decide) rfl ?_
    refine Rn.iconst (v := 48) (pc' := 16) rfl (by decide) rfl ?_
    refine Rn.icmp_lt (pc1 := 34) (pc2 := 19) rfl rfl rfl (fun h16 => ?_) (fun h16 => ?_)
    · refine Rn.iconst (v := 0) (pc' := 35) rfl (by decide) rfl ?_
      exact Rn.iret rfl (rfl) (⟨by rw [if_neg (fun z => absurd h16 (Int32.not_lt.mpr z.2.1))], rfl⟩)
    · refine Rn.step (pc' := 20) rfl rfl ?_
      refine Rn.getf (pc' := 23) rfl rfl rfl rfl rfl ?_
      refine Rn.step (pc' := 24) rfl rfl ?_
      refine Rn.mbald (k := k) (pc' := 25) rfl rfl (by decide) (rfl) (by omega) (by decide) rfl ?_
      refine Rn.iconst (v := 57) (pc' := 27) rfl (by decide) rfl ?_
      refine Rn.icmp_gt (pc1 := 34) (pc2 := 30) rfl rfl rfl (fun h27 => ?_) (fun h27 => ?_)
      · refine Rn.iconst (v := 0) (pc' := 35) rfl (by decide) rfl ?_
        exact Rn.iret rfl (rfl) (⟨by rw [if_neg (fun z => absurd h27 (Int32.not_lt.mpr z.2.2))], rfl⟩)
      · refine Rn.iconst (v := 1) (pc' := 31) rfl (by decide) rfl ?_
        refine Rn.step (pc' := 35) rfl rfl ?_
        exact Rn.iret rfl (rfl) (⟨by rw [if_pos ⟨hk, Int32.not_lt.mp h16, Int32.not_lt.mp h27⟩], rfl⟩)
theorem x_M_isLetter {d n k : Nat} (hn : v 1 = nI n) (h4 : n ≤ 400) (hk4 : k ≤ 1000) : Cl d j_M_isLetter [.ref 50, .int (nI k)] (MM m0 v dx A LA) (Pi (if k < n ∧ 97 ≤ A 51 k ∧ A 51 k ≤ 122 then 1 else 0) (MM m0 v dx A LA)) := by
  show Rn d j_M_isLetter 0 _ _ _ _
  refine Rn.step (pc' := 1) rfl rfl ?_
  refine Rn.step (pc' := 2) rfl rfl ?_
  refine Rn.getf (pc' := 5) rfl rfl rfl rfl rfl ?_
  refine Rn.icmp_ge (pc1 := 34) (pc2 := 8) rfl rfl rfl (fun h5 => ?_) (fun h5 => ?_)
  · refine Rn.iconst (v := 0) (pc' := 35) rfl (by decide) rfl ?_
    exact Rn.iret rfl (rfl) (⟨by rw [if_neg (fun z => absurd ((nI_leI (a := n) (b := k) (by omega) (by omega)).mp (by rw [← hn]; exact h5)) (by omega))], rfl⟩)
  · have hk : k < n := by
      have := mt (nI_leI (a := n) (b := k) (by omega) (by omega)).mpr (by rw [← hn]; exact h5)
      omega
    refine Rn.step (pc' := 9) rfl rfl ?_
    refine Rn.getf (pc' := 12) rfl rfl rfl rfl rfl ?_
    refine Rn.step (pc' := 13) rfl rfl ?_
    refine Rn.mbald (k := k) (pc' := 14) rfl rfl (by decide) (rfl) (by omega) (by decide) rfl ?_
    refine Rn.iconst (v := 97) (pc' := 16) rfl (by decide) rfl ?_
    refine Rn.icmp_lt (pc1 := 34) (pc2 := 19) rfl rfl rfl (fun h16 => ?_) (fun h16 => ?_)
    · refine Rn.iconst (v := 0) (pc' := 35) rfl (by decide) rfl ?_
      exact Rn.iret rfl (rfl) (⟨by rw [if_neg (fun z => absurd h16 (Int32.not_lt.mpr z.2.1))], rfl⟩)
    · refine Rn.step (pc' := 20) rfl rfl ?_
      refine Rn.getf (pc' := 23) rfl rfl rfl rfl rfl ?_
      refine Rn.step (pc' := 24) rfl rfl ?_
      refine Rn.mbald (k := k) (pc' := 25) rfl rfl (by decide) (rfl) (by omega) (by decide) rfl ?_
      refine Rn.iconst (v := 122) (pc' := 27) rfl (by decide) rfl ?_
      refine Rn.icmp_gt (pc1 := 34) (pc2 := 30) rfl rfl rfl (fun h27 => ?_) (fun h27 => ?_)
      · refine Rn.iconst (v := 0) (pc' := 35) rfl (by decide) rfl ?_
        exact Rn.iret rfl (rfl) (⟨by rw [if_neg (fun z => absurd h27 (Int32.not_lt.mpr z.2.2))], rfl⟩)
      · refine Rn.iconst (v := 1) (pc' := 31) rfl (by decide) rfl ?_
        refine Rn.step (pc' := 35) rfl rfl ?_
        exact Rn.iret rfl (rfl) (⟨by rw [if_pos ⟨hk, Int32.not_lt.mp h16, Int32.not_lt.mp h27⟩], rfl⟩)
theorem l_X_see {d n : Nat} (hn : v 1 = nI n) (h4 : n ≤ 400) (i : Nat) (hi : i ≤ n) : Rn d j_M_see 0 [.ref 50] [] (MM m0 (upd v 8 (nI i)) dx A LA) (Pi (cuE (A 51) n (skE (A 51) n i)) (MM m0 (upd v 8 (nI (skE (A 51) n i))) dx A LA)) := by
  refine Rn.step (pc' := 1) rfl rfl ?_
  refine Rn.getf (pc' := 4) rfl rfl rfl rfl rfl ?_
  refine Rn.step (pc' := 5) rfl rfl ?_
  refine Rn.getf (pc' := 8) rfl rfl rfl rfl rfl ?_
  refine Rn.icmp_ge (pc1 := 38) (pc2 := 11) rfl rfl rfl (fun h8 => ?_) (fun h8 => ?_)
  · have ez : skE (A 51) n i = i := rnE_z (fun z => absurd ((nI_leI (a := n) (b := i) (by omega) (by omega)).mp (by rw [← hn]; exact h8)) (by omega))
    rw [ez]
    refine Rn.step (pc' := 39) rfl rfl ?_
    refine Rn.getf (pc' := 42) rfl rfl rfl rfl rfl ?_
    refine Rn.step (pc' := 43) rfl rfl ?_
    refine Rn.getf (pc' := 46) rfl rfl rfl rfl rfl ?_
    refine Rn.icmp_ge (pc1 := 65) (pc2 := 49) rfl rfl rfl (fun h46 => ?_) (fun h46 => ?_)
    · have hi4 : ¬ i < n := by
        have := (nI_leI (a := n) (b := i) (by omega) (by omega)).mp (by rw [← hn]; exact h46)
        omega
      refine Rn.iconst (v := (-1)) (pc' := 66) rfl (by decide) rfl ?_
      exact Rn.iret rfl (rfl) (⟨by unfold cuE; rw [if_neg hi4], rfl⟩)
    · have hi3 : i < n := by
        have := mt (nI_leI (a := n) (b := i) (by omega) (by omega)).mpr (by rw [← hn]; exact h46)
        omega
      refine Rn.step (pc' := 50) rfl rfl ?_
      refine Rn.getf (pc' := 53) rfl rfl rfl rfl rfl ?_
      refine Rn.step (pc' := 54) rfl rfl ?_
      refine Rn.getf (pc' := 57) rfl rfl rfl rfl rfl ?_
      refine Rn.mbald (k := i) (pc' := 58) rfl rfl (by decide) (rfl) (by omega) (by decide) rfl ?_
      refine Rn.iconst (v := 255) (pc' := 61) rfl (by decide) rfl ?_
      refine Rn.iand (pc' := 62) rfl rfl ?_
      refine Rn.step (pc' := 66) rfl rfl ?_
      exact Rn.iret rfl (rfl) (⟨by unfold cuE; rw [if_pos hi3], rfl⟩)
  · have hi2 : i < n := by
      have := mt (nI_leI (a := n) (b := i) (by omega) (by omega)).mpr (by rw [← hn]; exact h8)
      omega
    refine Rn.step (pc' := 12) rfl rfl ?_
    refine Rn.getf (pc' := 15) rfl rfl rfl rfl rfl ?_
    refine Rn.step (pc' := 16) rfl rfl ?_
    refine Rn.getf (pc' := 19) rfl rfl rfl rfl rfl ?_
    refine Rn.mbald (k := i) (pc' := 20) rfl rfl (by decide) (rfl) (by omega) (by decide) rfl ?_
    refine Rn.iconst (v := 32) (pc' := 22) rfl (by decide) rfl ?_
    refine Rn.icmp_ne (pc1 := 38) (pc2 := 25) rfl rfl rfl (fun h22 => ?_) (fun h22 => ?_)
    · have ez : skE (A 51) n i = i := rnE_z (fun z => h22 (Int32.le_antisymm z.2.2 z.2.1))
      rw [ez]
      refine Rn.step (pc' := 39) rfl rfl ?_
      refine Rn.getf (pc' := 42) rfl rfl rfl rfl rfl ?_
      refine Rn.step (pc' := 43) rfl rfl ?_
      refine Rn.getf (pc' := 46) rfl rfl rfl rfl rfl ?_
      refine Rn.icmp_ge (pc1 := 65) (pc2 := 49) rfl rfl rfl (fun h46 => ?_) (fun h46 => ?_)
      · have hi4 : ¬ i < n := by
          have := (nI_leI (a := n) (b := i) (by omega) (by omega)).mp (by rw [← hn]; exact h46)
          omega
        refine Rn.iconst (v := (-1)) (pc' := 66) rfl (by decide) rfl ?_
        exact Rn.iret rfl (rfl) (⟨by unfold cuE; rw [if_neg hi4], rfl⟩)
      · have hi3 : i < n := by
          have := mt (nI_leI (a := n) (b := i) (by omega) (by omega)).mpr (by rw [← hn]; exact h46)
          omega
        refine Rn.step (pc' := 50) rfl rfl ?_
        refine Rn.getf (pc' := 53) rfl rfl rfl rfl rfl ?_
        refine Rn.step (pc' := 54) rfl rfl ?_
        refine Rn.getf (pc' := 57) rfl rfl rfl rfl rfl ?_
        refine Rn.mbald (k := i) (pc' := 58) rfl rfl (by decide) (rfl) (by omega) (by decide) rfl ?_
        refine Rn.iconst (v := 255) (pc' := 61) rfl (by decide) rfl ?_
        refine Rn.iand (pc' := 62) rfl rfl ?_
        refine Rn.step (pc' := 66) rfl rfl ?_
        exact Rn.iret rfl (rfl) (⟨by unfold cuE; rw [if_pos hi3], rfl⟩)
    · refine Rn.step (pc' := 26) rfl rfl ?_
      refine Rn.step (pc' := 27) rfl rfl ?_
      refine Rn.getf (pc' := 30) rfl rfl rfl rfl rfl ?_
      refine Rn.iconst (v := 1) (pc' := 31) rfl (by decide) rfl ?_
      refine Rn.iadd (pc' := 32) rfl rfl ?_
      refine Rn.mput (pc' := 35) rfl rfl rfl rfl (by decide) rfl ?_
      refine Rn.step (pc' := 0) rfl rfl ?_
      rw [updO, show upd v 8 (nI i) 8 + 1 = nI (i + 1) from nI_add i 1, show skE (A 51) n i = skE (A 51) n (i + 1) from rnE_s ⟨hi2, Int32.le_of_eq h22.symm, Int32.le_of_eq h22⟩]
      exact l_X_see hn h4 (i + 1) (by omega)
termination_by n - i
theorem x_M_see {d n i : Nat} (hn : v 1 = nI n) (h4 : n ≤ 400) (h8 : v 8 = nI i) (hi : i ≤ n) : Cl d j_M_see [.ref 50] (MM m0 v dx A LA) (Pi (cuE (A 51) n (skE (A 51) n i)) (MM m0 (upd v 8 (nI (skE (A 51) n i))) dx A LA)) := by
  have := l_X_see (m0 := m0) (dx := dx) (A := A) (LA := LA) (d := d) hn h4 i hi
  rw [updI h8] at this
  exact this
end ML
