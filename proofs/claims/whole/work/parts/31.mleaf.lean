/-! THE MODEL: its smallest methods. -/
section ML
variable {m0 : xM} {v : Nat → Int32} {dx : Int64} {A : Nat → Nat → Int32} {LA : Nat → Nat → Int64} {s : Nat → Int32}
theorem c_M_in {d : Nat} {m : xM} (x lo hi : Int64) : Cl d j_M_in [.long x, .long lo, .long hi] m (Pi (if lo ≤ x ∧ x ≤ hi then 1 else 0) m) := by
  show Rn d j_M_in 0 _ _ _ _
  refine Rn.step (pc' := 1) rfl rfl ?_
  refine Rn.step (pc' := 2) rfl rfl ?_
  refine Rn.lcmp (pc' := 3) rfl rfl ?_
  refine Rn.ifc_lt (pc1 := 17) (pc2 := 6) rfl rfl rfl (fun h3 => ?_) (fun h3 => ?_)
  · refine Rn.iconst (v := 0) (pc' := 18) rfl (by decide) rfl ?_
    exact Rn.reti rfl (by decide) (by first | (rw [if_pos]; exact ⟨Int64.not_lt.mp fun q => h3 ((lg_cmp_lt _ _).mpr q), Int64.not_lt.mp fun q => h10 ((lg_cmp_gt _ _).mpr q)⟩) | (rw [if_neg]; exact fun q => Int64.not_lt.mpr q.1 ((lg_cmp_lt _ _).mp h3)) | (rw [if_neg]; exact fun q => Int64.not_lt.mpr q.2 ((lg_cmp_gt _ _).mp h10))) (rfl)
  · refine Rn.step (pc' := 7) rfl rfl ?_
    refine Rn.step (pc' := 9) rfl rfl ?_
    refine Rn.lcmp (pc' := 10) rfl rfl ?_
    refine Rn.ifc_gt (pc1 := 17) (pc2 := 13) rfl rfl rfl (fun h10 => ?_) (fun h10 => ?_)
    · refine Rn.iconst (v := 0) (pc' := 18) rfl (by decide) rfl ?_
      exact Rn.reti rfl (by decide) (by first | (rw [if_pos]; exact ⟨Int64.not_lt.mp fun q => h3 ((lg_cmp_lt _ _).mpr q), Int64.not_lt.mp fun q => h10 ((lg_cmp_gt _ _).mpr q)⟩) | (rw [if_neg]; exact fun q => Int64.not_lt.mpr q.1 ((lg_cmp_lt _ _).mp h3)) | (rw [if_neg]; exact fun q => Int64.not_lt.mpr q.2 ((lg_cmp_gt _ _).mp h10))) (rfl)
    · refine Rn.iconst (v := 1) (pc' := 14) rfl (by decide) rfl ?_
      refine Rn.step (pc' := 18) rfl rfl ?_
      exact Rn.reti rfl (by decide) (by first | (rw [if_pos]; exact ⟨Int64.not_lt.mp fun q => h3 ((lg_cmp_lt _ _).mpr q), Int64.not_lt.mp fun q => h10 ((lg_cmp_gt _ _).mpr q)⟩) | (rw [if_neg]; exact fun q => Int64.not_lt.mpr q.1 ((lg_cmp_lt _ _).mp h3)) | (rw [if_neg]; exact fun q => Int64.not_lt.mpr q.2 ((lg_cmp_gt _ _).mp h10))) (rfl)
theorem c_M_brotherOf {d : Nat} (b q : Nat) (h : 10 + 6 * b + q < 151) : Cl d j_M_brotherOf [.ref 50, .int (nI b), .int (nI q)] (MS m0 v dx A LA s) (Pi (s (10 + 6 * b + q)) (MS m0 v dx A LA s)) := by
  show Rn d j_M_brotherOf 0 _ _ _ _
  refine Rn.step (pc' := 1) rfl rfl ?_
  refine Rn.getf (pc' := 4) rfl rfl rfl rfl rfl ?_
  refine Rn.iconst (v := 10) (pc' := 6) rfl (by decide) rfl ?_
  refine Rn.iconst (v := 6) (pc' := 8) rfl (by decide) rfl ?_
  refine Rn.step (pc' := 9) rfl rfl ?_
  refine Rn.imul (pc' := 10) rfl rfl ?_
  refine Rn.iadd (pc' := 11) rfl rfl ?_
  refine Rn.step (pc' := 12) rfl rfl ?_
  refine Rn.iadd (pc' := 13) rfl rfl ?_
  refine Rn.sald (k := 10 + 6 * b + q) (pc' := 14) rfl rfl (by simp only [nI_lit, nI_add, pk_mul]) (by omega) (by decide) rfl ?_
  exact Rn.reti rfl (rfl) (rfl) (rfl)
theorem c_M_wearerOf {d : Nat} (k : Nat) (h : k < 2) : Cl d j_M_wearerOf [.ref 50, .int (nI k)] (MS m0 v dx A LA s) (Pi (s (46 + 3 * k)) (MS m0 v dx A LA s)) := by
  show Rn d j_M_wearerOf 0 _ _ _ _
  refine Rn.step (pc' := 1) rfl rfl ?_
  refine Rn.getf (pc' := 4) rfl rfl rfl rfl rfl ?_
  refine Rn.iconst (v := 46) (pc' := 6) rfl (by decide) rfl ?_
  refine Rn.iconst (v := 3) (pc' := 7) rfl (by decide) rfl ?_
  refine Rn.step (pc' := 8) rfl rfl ?_
  refine Rn.imul (pc' := 9) rfl rfl ?_
  refine Rn.iadd (pc' := 10) rfl rfl ?_
  refine Rn.sald (k := 46 + 3 * k) (pc' := 11) rfl rfl (by simp only [nI_lit, nI_add, pk_mul]) (by omega) (by decide) rfl ?_
  exact Rn.reti rfl (rfl) (rfl) (rfl)
theorem c_M_wornOf {d : Nat} (k : Nat) (h : k < 2) : Cl d j_M_wornOf [.ref 50, .int (nI k)] (MS m0 v dx A LA s) (Pi (s (46 + 3 * k + 2)) (MS m0 v dx A LA s)) := by
  show Rn d j_M_wornOf 0 _ _ _ _
  refine Rn.step (pc' := 1) rfl rfl ?_
  refine Rn.getf (pc' := 4) rfl rfl rfl rfl rfl ?_
  refine Rn.iconst (v := 46) (pc' := 6) rfl (by decide) rfl ?_
  refine Rn.iconst (v := 3) (pc' := 7) rfl (by decide) rfl ?_
  refine Rn.step (pc' := 8) rfl rfl ?_
  refine Rn.imul (pc' := 9) rfl rfl ?_
  refine Rn.iadd (pc' := 10) rfl rfl ?_
  refine Rn.iconst (v := 2) (pc' := 11) rfl (by decide) rfl ?_
  refine Rn.iadd (pc' := 12) rfl rfl ?_
  refine Rn.sald (k := 46 + 3 * k + 2) (pc' := 13) rfl rfl (by simp only [nI_lit, nI_add, pk_mul]) (by omega) (by decide) rfl ?_
  exact Rn.reti rfl (rfl) (rfl) (rfl)
theorem c_M_isLane {d : Nat}  : Cl d j_M_isLane [.ref 50] (MS m0 v dx A LA s) (Pi (if 0 < s 0 then 1 else 0) (MS m0 v dx A LA s)) := by
  show Rn d j_M_isLane 0 _ _ _ _
  refine Rn.step (pc' := 1) rfl rfl ?_
  refine Rn.getf (pc' := 4) rfl rfl rfl rfl rfl ?_
  refine Rn.iconst (v := 0) (pc' := 5) rfl (by decide) rfl ?_
  refine Rn.sald (k := 0) (pc' := 6) rfl rfl (by simp only [nI_lit, nI_add, pk_mul]) (by omega) (by decide) rfl ?_
  refine Rn.ifc_le (pc1 := 13) (pc2 := 9) rfl rfl rfl (fun h6 => ?_) (fun h6 => ?_)
  · refine Rn.iconst (v := 0) (pc' := 14) rfl (by decide) rfl ?_
    exact Rn.reti rfl (by decide) (by first | rfl | (simp_all [xcnd]; done)) (rfl)
  · refine Rn.iconst (v := 1) (pc' := 10) rfl (by decide) rfl ?_
    refine Rn.step (pc' := 14) rfl rfl ?_
    exact Rn.reti rfl (by decide) (by first | rfl | (simp_all [xcnd]; done)) (rfl)
theorem c_M_isBrother {d : Nat} (x : Int32) : Cl d j_M_isBrother [.ref 50, .int x] (MS m0 v dx A LA s) (Pi (if ¬ x < 0 ∧ ¬ s 2 ≤ x then 1 else 0) (MS m0 v dx A LA s)) := by
  show Rn d j_M_isBrother 0 _ _ _ _
  refine Rn.step (pc' := 1) rfl rfl ?_
  refine Rn.ifc_lt (pc1 := 18) (pc2 := 4) rfl rfl rfl (fun h1 => ?_) (fun h1 => ?_)
  · refine Rn.iconst (v := 0) (pc' := 19) rfl (by decide) rfl ?_
    exact Rn.reti rfl (by decide) (by first | rfl | (simp_all [xcnd]; done)) (rfl)
  · refine Rn.step (pc' := 5) rfl rfl ?_
    refine Rn.step (pc' := 6) rfl rfl ?_
    refine Rn.getf (pc' := 9) rfl rfl rfl rfl rfl ?_
    refine Rn.iconst (v := 2) (pc' := 10) rfl (by decide) rfl ?_
    refine Rn.sald (k := 2) (pc' := 11) rfl rfl (by simp only [nI_lit, nI_add, pk_mul]) (by omega) (by decide) rfl ?_
    refine Rn.icmp_ge (pc1 := 18) (pc2 := 14) rfl rfl rfl (fun h11 => ?_) (fun h11 => ?_)
    · refine Rn.iconst (v := 0) (pc' := 19) rfl (by decide) rfl ?_
      exact Rn.reti rfl (by decide) (by first | rfl | (simp_all [xcnd]; done)) (rfl)
    · refine Rn.iconst (v := 1) (pc' := 15) rfl (by decide) rfl ?_
      refine Rn.step (pc' := 19) rfl rfl ?_
      exact Rn.reti rfl (by decide) (by first | rfl | (simp_all [xcnd]; done)) (rfl)
theorem c_M_isPlace {d : Nat} (x : Int32) : Cl d j_M_isPlace [.ref 50, .int x] (MS m0 v dx A LA s) (Pi (if ¬ x < 0 ∧ ¬ s 0 ≤ x then 1 else 0) (MS m0 v dx A LA s)) := by
  show Rn d j_M_isPlace 0 _ _ _ _
  refine Rn.step (pc' := 1) rfl rfl ?_
  refine Rn.ifc_lt (pc1 := 18) (pc2 := 4) rfl rfl rfl (fun h1 => ?_) (fun h1 => ?_)
  · refine Rn.iconst (v := 0) (pc' := 19) rfl (by decide) rfl ?_
    exact Rn.reti rfl (by decide) (by first | rfl | (simp_all [xcnd]; done)) (rfl)
  · refine Rn.step (pc' := 5) rfl rfl ?_
    refine Rn.step (pc' := 6) rfl rfl ?_
    refine Rn.getf (pc' := 9) rfl rfl rfl rfl rfl ?_
    refine Rn.iconst (v := 0) (pc' := 10) rfl (by decide) rfl ?_
    refine Rn.sald (k := 0) (pc' := 11) rfl rfl (by simp only [nI_lit, nI_add, pk_mul]) (by omega) (by decide) rfl ?_
    refine Rn.icmp_ge (pc1 := 18) (pc2 := 14) rfl rfl rfl (fun h11 => ?_) (fun h11 => ?_)
    · refine Rn.iconst (v := 0) (pc' := 19) rfl (by decide) rfl ?_
      exact Rn.reti rfl (by decide) (by first | rfl | (simp_all [xcnd]; done)) (rfl)
    · refine Rn.iconst (v := 1) (pc' := 15) rfl (by decide) rfl ?_
      refine Rn.step (pc' := 19) rfl rfl ?_
      exact Rn.reti rfl (by decide) (by first | rfl | (simp_all [xcnd]; done)) (rfl)
theorem c_M_isRule {d : Nat} (x : Int32) : Cl d j_M_isRule [.ref 50, .int x] (MS m0 v dx A LA s) (Pi (if ¬ x < 0 ∧ ¬ v 2 ≤ x then 1 else 0) (MS m0 v dx A LA s)) := by
  show Rn d j_M_isRule 0 _ _ _ _
  refine Rn.step (pc' := 1) rfl rfl ?_
  refine Rn.ifc_lt (pc1 := 16) (pc2 := 4) rfl rfl rfl (fun h1 => ?_) (fun h1 => ?_)
  · refine Rn.iconst (v := 0) (pc' := 17) rfl (by decide) rfl ?_
    exact Rn.reti rfl (by decide) (by first | rfl | (simp_all [xcnd]; done)) (rfl)
  · refine Rn.step (pc' := 5) rfl rfl ?_
    refine Rn.step (pc' := 6) rfl rfl ?_
    refine Rn.getf (pc' := 9) rfl rfl rfl rfl rfl ?_
    refine Rn.icmp_ge (pc1 := 16) (pc2 := 12) rfl rfl rfl (fun h9 => ?_) (fun h9 => ?_)
    · refine Rn.iconst (v := 0) (pc' := 17) rfl (by decide) rfl ?_
      exact Rn.reti rfl (by decide) (by first | rfl | (simp_all [xcnd]; done)) (rfl)
    · refine Rn.iconst (v := 1) (pc' := 13) rfl (by decide) rfl ?_
      refine Rn.step (pc' := 17) rfl rfl ?_
      exact Rn.reti rfl (by decide) (by first | rfl | (simp_all [xcnd]; done)) (rfl)
theorem c_M_isHoled {d : Nat} (hd : 1 ≤ d) (k : Nat) (h : k < 2) : Cl d j_M_isHoled [.ref 50, .int (nI k)] (MS m0 v dx A LA s) (Pi (if s (46 + 3 * k + 2) < s 8 then 0 else 1) (MS m0 v dx A LA s)) := by
  show Rn d j_M_isHoled 0 _ _ _ _
  refine Rn.step (pc' := 1) rfl rfl ?_
  refine Rn.step (pc' := 2) rfl rfl ?_
  refine Rn.vi (pc' := 5) rfl (by decide) (by omega) rfl rfl rfl (c_M_wornOf k h) ?_
  refine Rn.step (pc' := 6) rfl rfl ?_
  refine Rn.getf (pc' := 9) rfl rfl rfl rfl rfl ?_
  refine Rn.iconst (v := 8) (pc' := 11) rfl (by decide) rfl ?_
  refine Rn.sald (k := 8) (pc' := 12) rfl rfl (by simp only [nI_lit, nI_add, pk_mul]) (by omega) (by decide) rfl ?_
  refine Rn.icmp_lt (pc1 := 19) (pc2 := 15) rfl rfl rfl (fun h12 => ?_) (fun h12 => ?_)
  · refine Rn.iconst (v := 0) (pc' := 20) rfl (by decide) rfl ?_
    exact Rn.reti rfl (by decide) (by first | rfl | (simp_all [xcnd]; done)) (rfl)
  · refine Rn.iconst (v := 1) (pc' := 16) rfl (by decide) rfl ?_
    refine Rn.step (pc' := 20) rfl rfl ?_
    exact Rn.reti rfl (by decide) (by first | rfl | (simp_all [xcnd]; done)) (rfl)
theorem c_M_fits {d : Nat} (hd : 1 ≤ d) (b : Nat) (h : b < 6) : Cl d j_M_fits [.ref 50, .int (nI b)] (MS m0 v dx A LA s) (Pi (if s 1 < s (10 + 6 * b + 2) then 0 else 1) (MS m0 v dx A LA s)) := by
  show Rn d j_M_fits 0 _ _ _ _
  refine Rn.step (pc' := 1) rfl rfl ?_
  refine Rn.step (pc' := 2) rfl rfl ?_
  refine Rn.iconst (v := 2) (pc' := 3) rfl (by decide) rfl ?_
  refine Rn.vi (pc' := 6) rfl (by decide) (by omega) rfl rfl rfl (c_M_brotherOf b 2 (by omega)) ?_
  refine Rn.step (pc' := 7) rfl rfl ?_
  refine Rn.getf (pc' := 10) rfl rfl rfl rfl rfl ?_
  refine Rn.iconst (v := 1) (pc' := 11) rfl (by decide) rfl ?_
  refine Rn.sald (k := 1) (pc' := 12) rfl rfl (by simp only [nI_lit, nI_add, pk_mul]) (by omega) (by decide) rfl ?_
  refine Rn.icmp_gt (pc1 := 19) (pc2 := 15) rfl rfl rfl (fun h12 => ?_) (fun h12 => ?_)
  · refine Rn.iconst (v := 0) (pc' := 20) rfl (by decide) rfl ?_
    exact Rn.reti rfl (by decide) (by first | rfl | (simp_all [xcnd]; done)) (rfl)
  · refine Rn.iconst (v := 1) (pc' := 16) rfl (by decide) rfl ?_
    refine Rn.step (pc' := 20) rfl rfl ?_
    exact Rn.reti rfl (by decide) (by first | rfl | (simp_all [xcnd]; done)) (rfl)
def mB1 (s : Nat → Int32) (x : Int32) : Int32 := (if s 46 = x then 1 else 0) ||| (if s 49 = x then 2 else 0)
theorem c_M_bootsOn {d : Nat} (hd : 1 ≤ d) (x : Int32) : Cl d j_M_bootsOn [.ref 50, .int x] (MS m0 v dx A LA s) (Pi (mB1 s x) (MS m0 v dx A LA s)) := by
  show Rn d j_M_bootsOn 0 _ _ _ _
  refine Rn.step (pc' := 1) rfl rfl ?_
  refine Rn.iconst (v := 0) (pc' := 2) rfl (by decide) rfl ?_
  refine Rn.vi (pc' := 5) rfl (by decide) (by omega) rfl rfl rfl (c_M_wearerOf 0 (by decide)) ?_
  refine Rn.step (pc' := 6) rfl rfl ?_
  refine Rn.icmp_ne (pc1 := 13) (pc2 := 9) rfl rfl rfl (fun h6 => ?_) (fun h6 => ?_)
  · refine Rn.iconst (v := 0) (pc' := 14) rfl (by decide) rfl ?_
    refine Rn.step (pc' := 15) rfl rfl ?_
    refine Rn.iconst (v := 1) (pc' := 16) rfl (by decide) rfl ?_
    refine Rn.vi (pc' := 19) rfl (by decide) (by omega) rfl rfl rfl (c_M_wearerOf 1 (by decide)) ?_
    refine Rn.step (pc' := 20) rfl rfl ?_
    refine Rn.icmp_ne (pc1 := 27) (pc2 := 23) rfl rfl rfl (fun h20 => ?_) (fun h20 => ?_)
    · refine Rn.iconst (v := 0) (pc' := 28) rfl (by decide) rfl ?_
      refine Rn.ior (pc' := 29) rfl rfl ?_
      exact Rn.reti rfl (rfl) (by unfold mB1; first | rfl | (simp_all [xcnd]; done)) (rfl)
    · refine Rn.iconst (v := 2) (pc' := 24) rfl (by decide) rfl ?_
      refine Rn.step (pc' := 28) rfl rfl ?_
      refine Rn.ior (pc' := 29) rfl rfl ?_
      exact Rn.reti rfl (rfl) (by unfold mB1; first | rfl | (simp_all [xcnd]; done)) (rfl)
  · refine Rn.iconst (v := 1) (pc' := 10) rfl (by decide) rfl ?_
    refine Rn.step (pc' := 14) rfl rfl ?_
    refine Rn.step (pc' := 15) rfl rfl ?_
    refine Rn.iconst (v := 1) (pc' := 16) rfl (by decide) rfl ?_
    refine Rn.vi (pc' := 19) rfl (by decide) (by omega) rfl rfl rfl (c_M_wearerOf 1 (by decide)) ?_
    refine Rn.step (pc' := 20) rfl rfl ?_
    refine Rn.icmp_ne (pc1 := 27) (pc2 := 23) rfl rfl rfl (fun h20 => ?_) (fun h20 => ?_)
    · refine Rn.iconst (v := 0) (pc' := 28) rfl (by decide) rfl ?_
      refine Rn.ior (pc' := 29) rfl rfl ?_
      exact Rn.reti rfl (rfl) (by unfold mB1; first | rfl | (simp_all [xcnd]; done)) (rfl)
    · refine Rn.iconst (v := 2) (pc' := 24) rfl (by decide) rfl ?_
      refine Rn.step (pc' := 28) rfl rfl ?_
      refine Rn.ior (pc' := 29) rfl rfl ?_
      exact Rn.reti rfl (rfl) (by unfold mB1; first | rfl | (simp_all [xcnd]; done)) (rfl)
def mBM (s : Nat → Int32) (sec x : Int32) : Int32 := if x = sec then 2 else (if s 46 = x then 1 else 0) + (if s 49 = x then 1 else 0)
theorem c_M_bootsMany {d : Nat} (hd : 1 ≤ d) (x : Int32) : Cl d j_M_bootsMany [.ref 50, .int x] (MS m0 v dx A LA s) (Pi (mBM s (v 23) x) (MS m0 v dx A LA s)) := by
  show Rn d j_M_bootsMany 0 _ _ _ _
  refine Rn.step (pc' := 1) rfl rfl ?_
  refine Rn.step (pc' := 2) rfl rfl ?_
  refine Rn.getf (pc' := 5) rfl rfl rfl rfl rfl ?_
  refine Rn.icmp_ne (pc1 := 12) (pc2 := 8) rfl rfl rfl (fun h5 => ?_) (fun h5 => ?_)
  · refine Rn.step (pc' := 13) rfl rfl ?_
    refine Rn.iconst (v := 0) (pc' := 14) rfl (by decide) rfl ?_
    refine Rn.vi (pc' := 17) rfl (by decide) (by omega) rfl rfl rfl (c_M_wearerOf 0 (by decide)) ?_
    refine Rn.step (pc' := 18) rfl rfl ?_
    refine Rn.icmp_ne (pc1 := 25) (pc2 := 21) rfl rfl rfl (fun h18 => ?_) (fun h18 => ?_)
    · refine Rn.iconst (v := 0) (pc' := 26) rfl (by decide) rfl ?_
      refine Rn.step (pc' := 27) rfl rfl ?_
      refine Rn.iconst (v := 1) (pc' := 28) rfl (by decide) rfl ?_
      refine Rn.vi (pc' := 31) rfl (by decide) (by omega) rfl rfl rfl (c_M_wearerOf 1 (by decide)) ?_
      refine Rn.step (pc' := 32) rfl rfl ?_
      refine Rn.icmp_ne (pc1 := 39) (pc2 := 35) rfl rfl rfl (fun h32 => ?_) (fun h32 => ?_)
      · refine Rn.iconst (v := 0) (pc' := 40) rfl (by decide) rfl ?_
        refine Rn.iadd (pc' := 41) rfl rfl ?_
        exact Rn.reti rfl (rfl) (by unfold mBM; first | rfl | (simp_all [xcnd]; done)) (rfl)
      · refine Rn.iconst (v := 1) (pc' := 36) rfl (by decide) rfl ?_
        refine Rn.step (pc' := 40) rfl rfl ?_
        refine Rn.iadd (pc' := 41) rfl rfl ?_
        exact Rn.reti rfl (rfl) (by unfold mBM; first | rfl | (simp_all [xcnd]; done)) (rfl)
    · refine Rn.iconst (v := 1) (pc' := 22) rfl (by decide) rfl ?_
      refine Rn.step (pc' := 26) rfl rfl ?_
      refine Rn.step (pc' := 27) rfl rfl ?_
      refine Rn.iconst (v := 1) (pc' := 28) rfl (by decide) rfl ?_
      refine Rn.vi (pc' := 31) rfl (by decide) (by omega) rfl rfl rfl (c_M_wearerOf 1 (by decide)) ?_
      refine Rn.step (pc' := 32) rfl rfl ?_
      refine Rn.icmp_ne (pc1 := 39) (pc2 := 35) rfl rfl rfl (fun h32 => ?_) (fun h32 => ?_)
      · refine Rn.iconst (v := 0) (pc' := 40) rfl (by decide) rfl ?_
        refine Rn.iadd (pc' := 41) rfl rfl ?_
        exact Rn.reti rfl (rfl) (by unfold mBM; first | rfl | (simp_all [xcnd]; done)) (rfl)
      · refine Rn.iconst (v := 1) (pc' := 36) rfl (by decide) rfl ?_
        refine Rn.step (pc' := 40) rfl rfl ?_
        refine Rn.iadd (pc' := 41) rfl rfl ?_
        exact Rn.reti rfl (rfl) (by unfold mBM; first | rfl | (simp_all [xcnd]; done)) (rfl)
  · refine Rn.iconst (v := 2) (pc' := 9) rfl (by decide) rfl ?_
    refine Rn.step (pc' := 41) rfl rfl ?_
    exact Rn.reti rfl (rfl) (by unfold mBM; first | rfl | (simp_all [xcnd]; done)) (rfl)
def mPl (s : Nat → Int32) (k : Nat) : Int32 := if s (46 + 3 * k) < 0 then s (46 + 3 * k + 1) else s (10 + 6 * (s (46 + 3 * k)).toNatClampNeg)
theorem mPl_w {s : Nat → Int32} {k b : Nat} (h : s (46 + 3 * k) = nI b) (hb : b < 6) : mPl s k = s (10 + 6 * b) := by
  unfold mPl
  rw [h, if_neg (nI_pos (by omega)), nI_clamp (by omega)]
theorem mPl_l {s : Nat → Int32} {k : Nat} (h : s (46 + 3 * k) < 0) : mPl s k = s (46 + 3 * k + 1) := by
  unfold mPl
  rw [if_pos h]
theorem c_M_placeOf {d : Nat} (hd : 1 ≤ d) (k : Nat) (h : k < 2) (hw : s (46 + 3 * k) < 0 ∨ ∃ b, b < 6 ∧ s (46 + 3 * k) = nI b) : Cl d j_M_placeOf [.ref 50, .int (nI k)] (MS m0 v dx A LA s) (Pi (mPl s k) (MS m0 v dx A LA s)) := by
  show Rn d j_M_placeOf 0 _ _ _ _
  refine Rn.step (pc' := 1) rfl rfl ?_
  refine Rn.step (pc' := 2) rfl rfl ?_
  refine Rn.vi (pc' := 5) rfl (by decide) (by omega) rfl rfl rfl (c_M_wearerOf k h) ?_
  refine Rn.ifc_ge (pc1 := 24) (pc2 := 8) rfl rfl rfl (fun h5 => ?_) (fun h5 => ?_)
  · obtain ⟨b, hb6, hb⟩ : ∃ b, b < 6 ∧ s (46 + 3 * k) = nI b := hw.resolve_left (Int32.not_lt.mpr h5)
    refine Rn.step (pc' := 25) rfl rfl ?_
    refine Rn.step (pc' := 26) rfl rfl ?_
    refine Rn.step (pc' := 27) rfl rfl ?_
    refine Rn.vi (pc' := 30) rfl (by decide) (by omega) rfl rfl rfl (c_M_wearerOf k h) ?_
    refine Rn.iconst (v := 0) (pc' := 31) rfl (by decide) rfl ?_
    refine Rn.vi (pc' := 34) rfl (by decide) (by omega) rfl rfl rfl ((by have := c_M_brotherOf (d := d - 1) (m0 := m0) (v := v) (dx := dx) (A := A) (LA := LA) (s := s) b 0 (by omega); rw [hb]; exact this)) ?_
    exact Rn.reti rfl (rfl) (by first | exact (mPl_w hb hb6).symm | exact (mPl_l (Int32.not_le.mp h5)).symm) (rfl)
  · refine Rn.step (pc' := 9) rfl rfl ?_
    refine Rn.getf (pc' := 12) rfl rfl rfl rfl rfl ?_
    refine Rn.iconst (v := 46) (pc' := 14) rfl (by decide) rfl ?_
    refine Rn.iconst (v := 3) (pc' := 15) rfl (by decide) rfl ?_
    refine Rn.step (pc' := 16) rfl rfl ?_
    refine Rn.imul (pc' := 17) rfl rfl ?_
    refine Rn.iadd (pc' := 18) rfl rfl ?_
    refine Rn.iconst (v := 1) (pc' := 19) rfl (by decide) rfl ?_
    refine Rn.iadd (pc' := 20) rfl rfl ?_
    refine Rn.sald (k := 46 + 3 * k + 1) (pc' := 21) rfl rfl (by simp only [nI_lit, nI_add, pk_mul]) (by omega) (by decide) rfl ?_
    refine Rn.step (pc' := 34) rfl rfl ?_
    exact Rn.reti rfl (rfl) (by first | exact (mPl_w hb hb6).symm | exact (mPl_l (Int32.not_le.mp h5)).symm) (rfl)
/-- the next want of b, among the first k -/
def nxw (s : Nat → Int32) (b : Nat) : Nat → Option Nat
  | 0 => none
  | k + 1 => if s (60 + 4 * k) = nI b ∧ ¬ s (60 + 4 * k + 2) < s 5 then (match nxw s b k with
    | none => some k
    | some q => if s (60 + 4 * k + 2) < s (60 + 4 * q + 2) then some k else some q) else nxw s b k
def eO : Option Nat → Int32
  | none => -1
  | some q => nI q
theorem nxw_lt {s : Nat → Int32} {b : Nat} : ∀ {k q : Nat}, nxw s b k = some q → q < k
  | 0, q, h => by cases h
  | k + 1, q, h => by
    unfold nxw at h
    split at h
    · split at h
      · cases h; omega
      · rename_i q' hq'
        split at h
        · cases h; omega
        · cases h
          have := nxw_lt hq'
          omega
    · have := nxw_lt h
      omega
theorem eO_neg {o : Option Nat} (h : ¬ eO o < 0) : ∃ q, o = some q := by
  cases o with
  | none => exact absurd (by decide) h
  | some q => exact ⟨q, rfl⟩
theorem nxw_no {s : Nat → Int32} {b k : Nat} (h : ¬ (s (60 + 4 * k) = nI b ∧ ¬ s (60 + 4 * k + 2) < s 5)) : nxw s b (k + 1) = nxw s b k := by
  rw [nxw, if_neg h]
theorem nxw_new {s : Nat → Int32} {b k : Nat} (h : s (60 + 4 * k) = nI b ∧ ¬ s (60 + 4 * k + 2) < s 5) (hk : k < 2147483648) (hn : eO (nxw s b k) < 0) : nxw s b (k + 1) = some k := by
  rw [nxw, if_pos h]
  cases hq : nxw s b k with
  | none => rfl
  | some q =>
    rw [hq] at hn
    have := nxw_lt hq
    exact absurd hn (nI_pos (by omega))
theorem nxw_bt {s : Nat → Int32} {b k q : Nat} (h : s (60 + 4 * k) = nI b ∧ ¬ s (60 + 4 * k + 2) < s 5) (hq : nxw s b k = some q) (hl : s (60 + 4 * k + 2) < s (60 + 4 * q + 2)) : nxw s b (k + 1) = some k := by
  rw [nxw, if_pos h, hq]
  simp only [if_pos hl]
theorem nxw_ge {s : Nat → Int32} {b k q : Nat} (h : s (60 + 4 * k) = nI b ∧ ¬ s (60 + 4 * k + 2) < s 5) (hq : nxw s b k = some q) (hl : ¬ s (60 + 4 * k + 2) < s (60 + 4 * q + 2)) : nxw s b (k + 1) = some q := by
  rw [nxw, if_pos h, hq]
  simp only [if_neg hl]
theorem l_M_nextWant {d b Wn : Nat} (hW : s 4 = nI Wn) (hWn : Wn ≤ 10) (k : Nat) (x : Value) (hk : k ≤ Wn) : Rn d j_M_nextWant 4 [.ref 50, .int (nI b), .int (eO (nxw s b k)), .int (nI k), x] [] (MS m0 v dx A LA s) (Pi (eO (nxw s b Wn)) (MS m0 v dx A LA s)) := by
  refine Rn.step (pc' := 5) rfl rfl ?_
  refine Rn.step (pc' := 6) rfl rfl ?_
  refine Rn.getf (pc' := 9) rfl rfl rfl rfl rfl ?_
  refine Rn.iconst (v := 4) (pc' := 10) rfl (by decide) rfl ?_
  refine Rn.sald (k := 4) (pc' := 11) rfl rfl (by simp only [nI_lit, nI_add, pk_mul]) (by omega) (by decide) rfl ?_
  refine Rn.icmp_ge (pc1 := 91) (pc2 := 14) rfl rfl rfl (fun h11 => ?_) (fun h11 => ?_)
  · have hk2 : k = Wn := by
      have := (nI_leI (by omega) (by omega)).mp (hW ▸ h11)
      omega
    subst hk2
    refine Rn.step (pc' := 92) rfl rfl ?_
    exact Rn.reti rfl (rfl) (rfl) (rfl)
  · have hk2 : k < Wn := by
      have := mt (nI_leI (a := Wn) (b := k) (by omega) (by omega)).mpr (hW ▸ h11)
      omega
    refine Rn.iconst (v := 60) (pc' := 16) rfl (by decide) rfl ?_
    refine Rn.iconst (v := 4) (pc' := 17) rfl (by decide) rfl ?_
    refine Rn.step (pc' := 18) rfl rfl ?_
    refine Rn.imul (pc' := 19) rfl rfl ?_
    refine Rn.iadd (pc' := 20) rfl rfl ?_
    refine Rn.step (pc' := 22) rfl rfl ?_
    refine Rn.step (pc' := 23) rfl rfl ?_
    refine Rn.getf (pc' := 26) rfl rfl rfl rfl rfl ?_
    refine Rn.step (pc' := 28) rfl rfl ?_
    refine Rn.sald (k := 60 + 4 * k) (pc' := 29) rfl rfl (by simp only [nI_lit, nI_add, pk_mul]) (by omega) (by decide) rfl ?_
    refine Rn.step (pc' := 30) rfl rfl ?_
    refine Rn.icmp_ne (pc1 := 85) (pc2 := 33) rfl rfl rfl (fun h30 => ?_) (fun h30 => ?_)
    · refine Rn.step (pc' := 88) rfl rfl ?_
      refine Rn.step (pc' := 4) rfl rfl ?_
      refine Rn.ls5 rfl rfl (congrArg Value.int ?_) (congrArg Value.int (nI_i1 k)) rfl (l_M_nextWant hW hWn (k + 1) _ (by omega))
      first
        | rw [nxw_no fun q => h30 q.1]
        | rw [nxw_no fun q => q.2 (Int32.not_le.mp h48)]
        | (rw [nxw_new ⟨h30, Int32.not_lt.mpr h48⟩ (by omega) h55]; rfl)
        | (rw [nxw_ge ⟨h30, Int32.not_lt.mpr h48⟩ hq (Int32.not_lt.mpr h80), hq])
        | (rw [nxw_bt ⟨h30, Int32.not_lt.mpr h48⟩ hq (Int32.not_le.mp h80)]; rfl)
    · refine Rn.step (pc' := 34) rfl rfl ?_
      refine Rn.getf (pc' := 37) rfl rfl rfl rfl rfl ?_
      refine Rn.step (pc' := 39) rfl rfl ?_
      refine Rn.iconst (v := 2) (pc' := 40) rfl (by decide) rfl ?_
      refine Rn.iadd (pc' := 41) rfl rfl ?_
      refine Rn.sald (k := 60 + 4 * k + 2) (pc' := 42) rfl rfl (by simp only [nI_lit, nI_add, pk_mul]) (by omega) (by decide) rfl ?_
      refine Rn.step (pc' := 43) rfl rfl ?_
      refine Rn.getf (pc' := 46) rfl rfl rfl rfl rfl ?_
      refine Rn.iconst (v := 5) (pc' := 47) rfl (by decide) rfl ?_
      refine Rn.sald (k := 5) (pc' := 48) rfl rfl (by simp only [nI_lit, nI_add, pk_mul]) (by omega) (by decide) rfl ?_
      refine Rn.icmp_ge (pc1 := 54) (pc2 := 51) rfl rfl rfl (fun h48 => ?_) (fun h48 => ?_)
      · refine Rn.step (pc' := 55) rfl rfl ?_
        refine Rn.ifc_lt (pc1 := 83) (pc2 := 58) rfl rfl rfl (fun h55 => ?_) (fun h55 => ?_)
        · refine Rn.step (pc' := 84) rfl rfl ?_
          refine Rn.step (pc' := 85) rfl rfl ?_
          refine Rn.step (pc' := 88) rfl rfl ?_
          refine Rn.step (pc' := 4) rfl rfl ?_
          refine Rn.ls5 rfl rfl (congrArg Value.int ?_) (congrArg Value.int (nI_i1 k)) rfl (l_M_nextWant hW hWn (k + 1) _ (by omega))
          first
            | rw [nxw_no fun q => h30 q.1]
            | rw [nxw_no fun q => q.2 (Int32.not_le.mp h48)]
            | (rw [nxw_new ⟨h30, Int32.not_lt.mpr h48⟩ (by omega) h55]; rfl)
            | (rw [nxw_ge ⟨h30, Int32.not_lt.mpr h48⟩ hq (Int32.not_lt.mpr h80), hq])
            | (rw [nxw_bt ⟨h30, Int32.not_lt.mpr h48⟩ hq (Int32.not_le.mp h80)]; rfl)
        · obtain ⟨q, hq⟩ := eO_neg h55
          have hqk := nxw_lt hq
          refine Rn.step (pc' := 59) rfl rfl ?_
          refine Rn.getf (pc' := 62) rfl rfl rfl rfl rfl ?_
          refine Rn.step (pc' := 64) rfl rfl ?_
          refine Rn.iconst (v := 2) (pc' := 65) rfl (by decide) rfl ?_
          refine Rn.iadd (pc' := 66) rfl rfl ?_
          refine Rn.sald (k := 60 + 4 * k + 2) (pc' := 67) rfl rfl (by simp only [nI_lit, nI_add, pk_mul]) (by omega) (by decide) rfl ?_
          refine Rn.step (pc' := 68) rfl rfl ?_
          refine Rn.getf (pc' := 71) rfl rfl rfl rfl rfl ?_
          refine Rn.iconst (v := 60) (pc' := 73) rfl (by decide) rfl ?_
          refine Rn.iconst (v := 4) (pc' := 74) rfl (by decide) rfl ?_
          refine Rn.step (pc' := 75) rfl rfl ?_
          refine Rn.imul (pc' := 76) rfl rfl ?_
          refine Rn.iadd (pc' := 77) rfl rfl ?_
          refine Rn.iconst (v := 2) (pc' := 78) rfl (by decide) rfl ?_
          refine Rn.iadd (pc' := 79) rfl rfl ?_
          refine Rn.sald (k := 60 + 4 * q + 2) (pc' := 80) rfl rfl (by rw [hq]; simp only [eO, nI_lit, nI_add, pk_mul]) (by omega) (by decide) rfl ?_
          refine Rn.icmp_ge (pc1 := 85) (pc2 := 83) rfl rfl rfl (fun h80 => ?_) (fun h80 => ?_)
          · refine Rn.step (pc' := 88) rfl rfl ?_
            refine Rn.step (pc' := 4) rfl rfl ?_
            refine Rn.ls5 rfl rfl (congrArg Value.int ?_) (congrArg Value.int (nI_i1 k)) rfl (l_M_nextWant hW hWn (k + 1) _ (by omega))
            first
              | rw [nxw_no fun q => h30 q.1]
              | rw [nxw_no fun q => q.2 (Int32.not_le.mp h48)]
              | (rw [nxw_new ⟨h30, Int32.not_lt.mpr h48⟩ (by omega) h55]; rfl)
              | (rw [nxw_ge ⟨h30, Int32.not_lt.mpr h48⟩ hq (Int32.not_lt.mpr h80), hq])
              | (rw [nxw_bt ⟨h30, Int32.not_lt.mpr h48⟩ hq (Int32.not_le.mp h80)]; rfl)
          · refine Rn.step (pc' := 84) rfl rfl ?_
            refine Rn.step (pc' := 85) rfl rfl ?_
            refine Rn.step (pc' := 88) rfl rfl ?_
            refine Rn.step (pc' := 4) rfl rfl ?_
            refine Rn.ls5 rfl rfl (congrArg Value.int ?_) (congrArg Value.int (nI_i1 k)) rfl (l_M_nextWant hW hWn (k + 1) _ (by omega))
            first
              | rw [nxw_no fun q => h30 q.1]
              | rw [nxw_no fun q => q.2 (Int32.not_le.mp h48)]
              | (rw [nxw_new ⟨h30, Int32.not_lt.mpr h48⟩ (by omega) h55]; rfl)
              | (rw [nxw_ge ⟨h30, Int32.not_lt.mpr h48⟩ hq (Int32.not_lt.mpr h80), hq])
              | (rw [nxw_bt ⟨h30, Int32.not_lt.mpr h48⟩ hq (Int32.not_le.mp h80)]; rfl)
      · refine Rn.step (pc' := 85) rfl rfl ?_
        refine Rn.step (pc' := 88) rfl rfl ?_
        refine Rn.step (pc' := 4) rfl rfl ?_
        refine Rn.ls5 rfl rfl (congrArg Value.int ?_) (congrArg Value.int (nI_i1 k)) rfl (l_M_nextWant hW hWn (k + 1) _ (by omega))
        first
          | rw [nxw_no fun q => h30 q.1]
          | rw [nxw_no fun q => q.2 (Int32.not_le.mp h48)]
          | (rw [nxw_new ⟨h30, Int32.not_lt.mpr h48⟩ (by omega) h55]; rfl)
          | (rw [nxw_ge ⟨h30, Int32.not_lt.mpr h48⟩ hq (Int32.not_lt.mpr h80), hq])
          | (rw [nxw_bt ⟨h30, Int32.not_lt.mpr h48⟩ hq (Int32.not_le.mp h80)]; rfl)
termination_by Wn - k
theorem c_M_nextWant {d b Wn : Nat} (hW : s 4 = nI Wn) (hWn : Wn ≤ 10) : Cl d j_M_nextWant [.ref 50, .int (nI b)] (MS m0 v dx A LA s) (Pi (eO (nxw s b Wn)) (MS m0 v dx A LA s)) := by
  show Rn d j_M_nextWant 0 _ _ _ _
  refine Rn.iconst (v := (-1)) (pc' := 1) rfl (by decide) rfl ?_
  refine Rn.step (pc' := 2) rfl rfl ?_
  refine Rn.iconst (v := 0) (pc' := 3) rfl (by decide) rfl ?_
  refine Rn.step (pc' := 4) rfl rfl ?_
  exact l_M_nextWant hW hWn 0 _ (Nat.zero_le _)
/-- where b wants to go -/
def mGo (s : Nat → Int32) (b Wn : Nat) : Int32 := match nxw s b Wn with
  | none => s (10 + 6 * b + 1)
  | some q => s (60 + 4 * q + 1)
theorem eO_pos {q : Nat} (h : q < 2147483648) : 0 ≤ eO (some q) := nI_pos' h
theorem c_M_goalOf {d : Nat} (hd : 1 ≤ d) {Wn : Nat} (hW : s 4 = nI Wn) (hWn : Wn ≤ 10) (b : Nat) (h : b < 6) : Cl d j_M_goalOf [.ref 50, .int (nI b)] (MS m0 v dx A LA s) (Pi (mGo s b Wn) (MS m0 v dx A LA s)) := by
  show Rn d j_M_goalOf 0 _ _ _ _
  refine Rn.step (pc' := 1) rfl rfl ?_
  refine Rn.step (pc' := 2) rfl rfl ?_
  refine Rn.vi (pc' := 5) rfl (by decide) (by omega) rfl rfl rfl (c_M_nextWant hW hWn) ?_
  refine Rn.step (pc' := 6) rfl rfl ?_
  refine Rn.step (pc' := 7) rfl rfl ?_
  refine Rn.ifc_ge (pc1 := 19) (pc2 := 10) rfl rfl rfl (fun h7 => ?_) (fun h7 => ?_)
  · obtain ⟨q, hq⟩ := eO_neg (Int32.not_lt.mpr h7)
    have hqk := nxw_lt hq
    refine Rn.step (pc' := 20) rfl rfl ?_
    refine Rn.getf (pc' := 23) rfl rfl rfl rfl rfl ?_
    refine Rn.iconst (v := 60) (pc' := 25) rfl (by decide) rfl ?_
    refine Rn.iconst (v := 4) (pc' := 26) rfl (by decide) rfl ?_
    refine Rn.step (pc' := 27) rfl rfl ?_
    refine Rn.imul (pc' := 28) rfl rfl ?_
    refine Rn.iadd (pc' := 29) rfl rfl ?_
    refine Rn.iconst (v := 1) (pc' := 30) rfl (by decide) rfl ?_
    refine Rn.iadd (pc' := 31) rfl rfl ?_
    refine Rn.sald (k := 60 + 4 * q + 1) (pc' := 32) rfl rfl (by rw [hq]; simp only [eO, nI_lit, nI_add, pk_mul]) (by omega) (by decide) rfl ?_
    exact Rn.reti rfl (rfl) (by simp only [mGo, hq]) (rfl)
  · have hq : nxw s b Wn = none := by
      cases hn : nxw s b Wn with
      | none => rfl
      | some q =>
        have := nxw_lt hn
        rw [hn] at h7
        exact absurd (eO_pos (by omega)) h7
    refine Rn.step (pc' := 11) rfl rfl ?_
    refine Rn.step (pc' := 12) rfl rfl ?_
    refine Rn.iconst (v := 1) (pc' := 13) rfl (by decide) rfl ?_
    refine Rn.vi (pc' := 16) rfl (by decide) (by omega) rfl rfl rfl (c_M_brotherOf b 1 (by omega)) ?_
    refine Rn.step (pc' := 32) rfl rfl ?_
    exact Rn.reti rfl (rfl) (by simp only [mGo, hq]) (rfl)
/-- is it frost, by the first k frosts -/
def mFr (s : Nat → Int32) (f : Int32) : Nat → Int32
  | 0 => f
  | k + 1 => if ¬ mFr s f k = 0 ∨ (s (52 + 2 * k) ≤ s 5 ∧ ¬ s (52 + 2 * k + 1) < s 5) then 1 else 0
theorem mFr_s (s : Nat → Int32) (f : Int32) (k : Nat) : mFr s f (k + 1) = if ¬ mFr s f k = 0 ∨ (s (52 + 2 * k) ≤ s 5 ∧ ¬ s (52 + 2 * k + 1) < s 5) then 1 else 0 := rfl
theorem mFr_b {s : Nat → Int32} {f : Int32} (hf : f = 0 ∨ f = 1) : ∀ k, mFr s f k = 0 ∨ mFr s f k = 1
  | 0 => hf
  | k + 1 => by
    unfold mFr
    split
    · exact Or.inr rfl
    · exact Or.inl rfl
theorem nar_b {x : Int32} (h : x = 0 ∨ x = 1) : narrow .boolean (.int x) = .int x := by
  rcases h with rfl | rfl <;> decide
theorem l_M_isFrost {d Fn : Nat} (hF : s 3 = nI Fn) (hFn : Fn ≤ 4) (hf : v 24 = 0 ∨ v 24 = 1) (k : Nat) (hk : k ≤ Fn) : Rn d j_M_isFrost 7 [.ref 50, .int (mFr s (v 24) k), .int (nI k)] [] (MS m0 v dx A LA s) (Pi (mFr s (v 24) Fn) (MS m0 v dx A LA s)) := by
  refine Rn.step (pc' := 8) rfl rfl ?_
  refine Rn.step (pc' := 9) rfl rfl ?_
  refine Rn.getf (pc' := 12) rfl rfl rfl rfl rfl ?_
  refine Rn.iconst (v := 3) (pc' := 13) rfl (by decide) rfl ?_
  refine Rn.sald (k := 3) (pc' := 14) rfl rfl (by simp only [nI_lit, nI_add, pk_mul]) (by omega) (by decide) rfl ?_
  refine Rn.icmp_ge (pc1 := 75) (pc2 := 17) rfl rfl rfl (fun h14 => ?_) (fun h14 => ?_)
  · have hk2 : k = Fn := by
      have := (nI_leI (by omega) (by omega)).mp (hF ▸ h14)
      omega
    subst hk2
    refine Rn.step (pc' := 76) rfl rfl ?_
    exact Rn.reti rfl (nar_b (mFr_b hf k)) (rfl) (rfl)
  · have hk2 : k < Fn := by
      have := mt (nI_leI (a := Fn) (b := k) (by omega) (by omega)).mpr (hF ▸ h14)
      omega
    refine Rn.step (pc' := 18) rfl rfl ?_
    refine Rn.ifc_ne (pc1 := 63) (pc2 := 21) rfl rfl rfl (fun h18 => ?_) (fun h18 => ?_)
    · refine Rn.iconst (v := 1) (pc' := 64) rfl (by decide) rfl ?_
      refine Rn.step (pc' := 68) rfl rfl ?_
      refine Rn.step (pc' := 69) rfl rfl ?_
      refine Rn.step (pc' := 72) rfl rfl ?_
      refine Rn.step (pc' := 7) rfl rfl ?_
      refine Rn.ls3 rfl (congrArg Value.int ?_) (congrArg Value.int (nI_i1 k)) (l_M_isFrost hF hFn hf (k + 1) (by omega))
      rw [mFr_s]
      exact (if_pos (Or.inl h18)).symm
    · refine Rn.step (pc' := 22) rfl rfl ?_
      refine Rn.getf (pc' := 25) rfl rfl rfl rfl rfl ?_
      refine Rn.iconst (v := 5) (pc' := 26) rfl (by decide) rfl ?_
      refine Rn.sald (k := 5) (pc' := 27) rfl rfl (by simp only [nI_lit, nI_add, pk_mul]) (by omega) (by decide) rfl ?_
      refine Rn.step (pc' := 28) rfl rfl ?_
      refine Rn.getf (pc' := 31) rfl rfl rfl rfl rfl ?_
      refine Rn.iconst (v := 52) (pc' := 33) rfl (by decide) rfl ?_
      refine Rn.iconst (v := 2) (pc' := 34) rfl (by decide) rfl ?_
      refine Rn.step (pc' := 35) rfl rfl ?_
      refine Rn.imul (pc' := 36) rfl rfl ?_
      refine Rn.iadd (pc' := 37) rfl rfl ?_
      refine Rn.sald (k := 52 + 2 * k) (pc' := 38) rfl rfl (by simp only [nI_lit, nI_add, pk_mul]) (by omega) (by decide) rfl ?_
      refine Rn.icmp_lt (pc1 := 67) (pc2 := 41) rfl rfl rfl (fun h38 => ?_) (fun h38 => ?_)
      · refine Rn.iconst (v := 0) (pc' := 68) rfl (by decide) rfl ?_
        refine Rn.step (pc' := 69) rfl rfl ?_
        refine Rn.step (pc' := 72) rfl rfl ?_
        refine Rn.step (pc' := 7) rfl rfl ?_
        refine Rn.ls3 rfl (congrArg Value.int ?_) (congrArg Value.int (nI_i1 k)) (l_M_isFrost hF hFn hf (k + 1) (by omega))
        rw [mFr_s]
        exact (if_neg fun q => q.elim (fun c => c h18) (fun z => Int32.not_lt.mpr z.1 h38)).symm
      · refine Rn.step (pc' := 42) rfl rfl ?_
        refine Rn.getf (pc' := 45) rfl rfl rfl rfl rfl ?_
        refine Rn.iconst (v := 5) (pc' := 46) rfl (by decide) rfl ?_
        refine Rn.sald (k := 5) (pc' := 47) rfl rfl (by simp only [nI_lit, nI_add, pk_mul]) (by omega) (by decide) rfl ?_
        refine Rn.step (pc' := 48) rfl rfl ?_
        refine Rn.getf (pc' := 51) rfl rfl rfl rfl rfl ?_
        refine Rn.iconst (v := 52) (pc' := 53) rfl (by decide) rfl ?_
        refine Rn.iconst (v := 2) (pc' := 54) rfl (by decide) rfl ?_
        refine Rn.step (pc' := 55) rfl rfl ?_
        refine Rn.imul (pc' := 56) rfl rfl ?_
        refine Rn.iadd (pc' := 57) rfl rfl ?_
        refine Rn.iconst (v := 1) (pc' := 58) rfl (by decide) rfl ?_
        refine Rn.iadd (pc' := 59) rfl rfl ?_
        refine Rn.sald (k := 52 + 2 * k + 1) (pc' := 60) rfl rfl (by simp only [nI_lit, nI_add, pk_mul]) (by omega) (by decide) rfl ?_
        refine Rn.icmp_gt (pc1 := 67) (pc2 := 63) rfl rfl rfl (fun h60 => ?_) (fun h60 => ?_)
        · refine Rn.iconst (v := 0) (pc' := 68) rfl (by decide) rfl ?_
          refine Rn.step (pc' := 69) rfl rfl ?_
          refine Rn.step (pc' := 72) rfl rfl ?_
          refine Rn.step (pc' := 7) rfl rfl ?_
          refine Rn.ls3 rfl (congrArg Value.int ?_) (congrArg Value.int (nI_i1 k)) (l_M_isFrost hF hFn hf (k + 1) (by omega))
          rw [mFr_s]
          exact (if_neg fun q => q.elim (fun c => c h18) (fun z => z.2 h60)).symm
        · refine Rn.iconst (v := 1) (pc' := 64) rfl (by decide) rfl ?_
          refine Rn.step (pc' := 68) rfl rfl ?_
          refine Rn.step (pc' := 69) rfl rfl ?_
          refine Rn.step (pc' := 72) rfl rfl ?_
          refine Rn.step (pc' := 7) rfl rfl ?_
          refine Rn.ls3 rfl (congrArg Value.int ?_) (congrArg Value.int (nI_i1 k)) (l_M_isFrost hF hFn hf (k + 1) (by omega))
          rw [mFr_s]
          exact (if_pos (Or.inr ⟨Int32.not_lt.mp (show ¬ s 5 < s (52 + 2 * k) from h38), h60⟩)).symm
termination_by Fn - k
theorem c_M_isFrost {d Fn : Nat} (hF : s 3 = nI Fn) (hFn : Fn ≤ 4) (hf : v 24 = 0 ∨ v 24 = 1) : Cl d j_M_isFrost [.ref 50] (MS m0 v dx A LA s) (Pi (mFr s (v 24) Fn) (MS m0 v dx A LA s)) := by
  show Rn d j_M_isFrost 0 _ _ _ _
  refine Rn.step (pc' := 1) rfl rfl ?_
  refine Rn.getf (pc' := 4) rfl rfl rfl rfl rfl ?_
  refine Rn.step (pc' := 5) rfl rfl ?_
  refine Rn.iconst (v := 0) (pc' := 6) rfl (by decide) rfl ?_
  refine Rn.step (pc' := 7) rfl rfl ?_
  exact l_M_isFrost hF hFn hf 0 (Nat.zero_le _)
/-- how many others stand where b does, among the first k -/
def mOt (s : Nat → Int32) (b : Nat) : Nat → Int32
  | 0 => 0
  | k + 1 => mOt s b k + (if ¬ k = b ∧ s (10 + 6 * k) = s (10 + 6 * b) then 1 else 0)
theorem mOt_s (s : Nat → Int32) (b k : Nat) : mOt s b (k + 1) = mOt s b k + (if ¬ k = b ∧ s (10 + 6 * k) = s (10 + 6 * b) then 1 else 0) := rfl
theorem l_M_othersAt {d b Bn : Nat} (hBn : s 2 = nI Bn) (hB6 : Bn ≤ 6) (hb : b < 6) (hd : 1 ≤ d) (k : Nat) (hk : k ≤ Bn) : Rn d j_M_othersAt 4 [.ref 50, .int (nI b), .int (mOt s b k), .int (nI k)] [] (MS m0 v dx A LA s) (Pi (mOt s b Bn) (MS m0 v dx A LA s)) := by
  refine Rn.step (pc' := 5) rfl rfl ?_
  refine Rn.step (pc' := 6) rfl rfl ?_
  refine Rn.getf (pc' := 9) rfl rfl rfl rfl rfl ?_
  refine Rn.iconst (v := 2) (pc' := 10) rfl (by decide) rfl ?_
  refine Rn.sald (k := 2) (pc' := 11) rfl rfl (by simp only [nI_lit, nI_add, pk_mul]) (by omega) (by decide) rfl ?_
  refine Rn.icmp_ge (pc1 := 48) (pc2 := 14) rfl rfl rfl (fun h11 => ?_) (fun h11 => ?_)
  · have hk2 : k = Bn := by
      have := (nI_leI (by omega) (by omega)).mp (hBn ▸ h11)
      omega
    subst hk2
    refine Rn.step (pc' := 49) rfl rfl ?_
    exact Rn.reti rfl (rfl) (rfl) (rfl)
  · have hk2 : k < Bn := by
      have := mt (nI_leI (a := Bn) (b := k) (by omega) (by omega)).mpr (hBn ▸ h11)
      omega
    refine Rn.step (pc' := 15) rfl rfl ?_
    refine Rn.step (pc' := 16) rfl rfl ?_
    refine Rn.step (pc' := 17) rfl rfl ?_
    refine Rn.icmp_eq (pc1 := 39) (pc2 := 20) rfl rfl rfl (fun h17 => ?_) (fun h17 => ?_)
    · refine Rn.iconst (v := 0) (pc' := 40) rfl (by decide) rfl ?_
      refine Rn.iadd (pc' := 41) rfl rfl ?_
      refine Rn.step (pc' := 42) rfl rfl ?_
      refine Rn.step (pc' := 45) rfl rfl ?_
      refine Rn.step (pc' := 4) rfl rfl ?_
      refine Rn.ls4 rfl rfl (congrArg Value.int ?_) (congrArg Value.int (nI_i1 k)) (l_M_othersAt hBn hB6 hb hd (k + 1) (by omega))
      rw [mOt_s]
      first
        | (rw [if_neg]; exact fun q => q.1 ((nI_eq (by omega) (by omega)).mp h17))
        | (rw [if_neg]; exact fun q => h32 q.2)
        | exact congrArg (mOt s b k + ·) (if_pos ⟨fun e => h17 (congrArg nI e), h32⟩).symm
    · refine Rn.step (pc' := 21) rfl rfl ?_
      refine Rn.step (pc' := 22) rfl rfl ?_
      refine Rn.iconst (v := 0) (pc' := 23) rfl (by decide) rfl ?_
      refine Rn.vi (pc' := 26) rfl (by decide) (by omega) rfl rfl rfl (c_M_brotherOf k 0 (by omega)) ?_
      refine Rn.step (pc' := 27) rfl rfl ?_
      refine Rn.step (pc' := 28) rfl rfl ?_
      refine Rn.iconst (v := 0) (pc' := 29) rfl (by decide) rfl ?_
      refine Rn.vi (pc' := 32) rfl (by decide) (by omega) rfl rfl rfl (c_M_brotherOf b 0 (by omega)) ?_
      refine Rn.icmp_ne (pc1 := 39) (pc2 := 35) rfl rfl rfl (fun h32 => ?_) (fun h32 => ?_)
      · refine Rn.iconst (v := 0) (pc' := 40) rfl (by decide) rfl ?_
        refine Rn.iadd (pc' := 41) rfl rfl ?_
        refine Rn.step (pc' := 42) rfl rfl ?_
        refine Rn.step (pc' := 45) rfl rfl ?_
        refine Rn.step (pc' := 4) rfl rfl ?_
        refine Rn.ls4 rfl rfl (congrArg Value.int ?_) (congrArg Value.int (nI_i1 k)) (l_M_othersAt hBn hB6 hb hd (k + 1) (by omega))
        rw [mOt_s]
        first
          | (rw [if_neg]; exact fun q => q.1 ((nI_eq (by omega) (by omega)).mp h17))
          | (rw [if_neg]; exact fun q => h32 q.2)
          | exact congrArg (mOt s b k + ·) (if_pos ⟨fun e => h17 (congrArg nI e), h32⟩).symm
      · refine Rn.iconst (v := 1) (pc' := 36) rfl (by decide) rfl ?_
        refine Rn.step (pc' := 40) rfl rfl ?_
        refine Rn.iadd (pc' := 41) rfl rfl ?_
        refine Rn.step (pc' := 42) rfl rfl ?_
        refine Rn.step (pc' := 45) rfl rfl ?_
        refine Rn.step (pc' := 4) rfl rfl ?_
        refine Rn.ls4 rfl rfl (congrArg Value.int ?_) (congrArg Value.int (nI_i1 k)) (l_M_othersAt hBn hB6 hb hd (k + 1) (by omega))
        rw [mOt_s]
        first
          | (rw [if_neg]; exact fun q => q.1 ((nI_eq (by omega) (by omega)).mp h17))
          | (rw [if_neg]; exact fun q => h32 q.2)
          | exact congrArg (mOt s b k + ·) (if_pos ⟨fun e => h17 (congrArg nI e), h32⟩).symm
termination_by Bn - k
theorem c_M_othersAt {d b Bn : Nat} (hBn : s 2 = nI Bn) (hB6 : Bn ≤ 6) (hb : b < 6) (hd : 1 ≤ d) : Cl d j_M_othersAt [.ref 50, .int (nI b)] (MS m0 v dx A LA s) (Pi (mOt s b Bn) (MS m0 v dx A LA s)) := by
  show Rn d j_M_othersAt 0 _ _ _ _
  refine Rn.iconst (v := 0) (pc' := 1) rfl (by decide) rfl ?_
  refine Rn.step (pc' := 2) rfl rfl ?_
  refine Rn.iconst (v := 0) (pc' := 3) rfl (by decide) rfl ?_
  refine Rn.step (pc' := 4) rfl rfl ?_
  exact l_M_othersAt hBn hB6 hb hd 0 (Nat.zero_le _)
end ML
