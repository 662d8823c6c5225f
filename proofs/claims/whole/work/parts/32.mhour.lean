/-! THE MODEL: pay, feet, chill, the way home. -/
section MH
variable {m0 : xM} {v : Nat → Int32} {dx : Int64} {A : Nat → Nat → Int32} {LA : Nat → Nat → Int64} {s : Nat → Int32}
theorem upd_id (f : Nat → Int32) (k : Nat) : upd f k (f k) = f := by
  funext j
  by_cases h : j = k
  · subst h; simp [upd]
  · simp [upd, h]
theorem upd_s (f : Nat → Int32) (k : Nat) (x : Int32) : upd f k x k = x := by simp [upd]
theorem upd_n (f : Nat → Int32) {k j : Nat} (x : Int32) (h : j ≠ k) : upd f k x j = f j := by simp [upd, h]
/-- pay, by the first k wants -/
def mPy (s : Nat → Int32) : Nat → (Nat → Int32) × Int32
  | 0 => (s, 0)
  | k + 1 => if (mPy s k).1 (60 + 4 * k + 2) = (mPy s k).1 5 ∧ (mPy s k).1 (10 + 6 * ((mPy s k).1 (60 + 4 * k)).toNatClampNeg) = (mPy s k).1 (60 + 4 * k + 1) ∧ ¬ (mPy s k).1 (10 + 6 * ((mPy s k).1 (60 + 4 * k)).toNatClampNeg + 4) = 1
    then (upd (mPy s k).1 (10 + 6 * ((mPy s k).1 (60 + 4 * k)).toNatClampNeg + 5) ((mPy s k).1 (10 + 6 * ((mPy s k).1 (60 + 4 * k)).toNatClampNeg + 5) + (mPy s k).1 (60 + 4 * k + 3)), (mPy s k).2 + (mPy s k).1 (60 + 4 * k + 3))
    else mPy s k
/-- only what is earned changes -/
theorem mPy_out {s : Nat → Int32} {Wn : Nat} (hw : ∀ k, k < Wn → ∃ b, b < 6 ∧ s (60 + 4 * k) = nI b) : ∀ k, k ≤ Wn → ∀ i, (∀ b, b < 6 → i ≠ 15 + 6 * b) → (mPy s k).1 i = s i
  | 0, _, i, _ => rfl
  | k + 1, hk, i, hi => by
    have ih := mPy_out hw k (by omega)
    unfold mPy
    split
    · obtain ⟨b, hb, he⟩ := hw k (by omega)
      have e1 : (mPy s k).1 (60 + 4 * k) = nI b := by rw [ih _ (fun c hc => by omega)]; exact he
      have h9 : i ≠ 10 + 6 * ((mPy s k).1 (60 + 4 * k)).toNatClampNeg + 5 := by
        rw [e1, nI_clamp (by omega)]
        have := hi b hb
        omega
      show upd _ _ _ i = s i
      rw [upd_n _ _ h9]
      exact ih i hi
    · exact ih i hi
theorem mPy_s (s : Nat → Int32) {k b : Nat} (h : (mPy s k).1 (60 + 4 * k) = nI b) (hb : b < 6) : mPy s (k + 1) = if (mPy s k).1 (60 + 4 * k + 2) = (mPy s k).1 5 ∧ (mPy s k).1 (10 + 6 * b) = (mPy s k).1 (60 + 4 * k + 1) ∧ ¬ (mPy s k).1 (10 + 6 * b + 4) = 1 then (upd (mPy s k).1 (10 + 6 * b + 5) ((mPy s k).1 (10 + 6 * b + 5) + (mPy s k).1 (60 + 4 * k + 3)), (mPy s k).2 + (mPy s k).1 (60 + 4 * k + 3)) else mPy s k := by
  have e : ((mPy s k).1 (60 + 4 * k)).toNatClampNeg = b := by rw [h, nI_clamp (by omega)]
  conv => lhs; unfold mPy
  rw [e]
theorem l_M_earnsNow {d : Nat} {Wn : Nat} (hW : s 4 = nI Wn) (hWn : Wn ≤ 10) (hw : ∀ k, k < Wn → ∃ b, b < 6 ∧ s (60 + 4 * k) = nI b) (k : Nat) (x y : Value) (hk : k ≤ Wn) : Rn d j_M_earnsNow 4 [.ref 50, .int (mPy s k).2, .int (nI k), x, y] [] (MS m0 v dx A LA (mPy s k).1) (Pi (mPy s Wn).2 (MS m0 v dx A LA (mPy s Wn).1)) := by
  have hs4 : (mPy s k).1 4 = nI Wn := (mPy_out hw k hk 4 (fun c hc => by omega)).trans hW
  refine Rn.step (pc' := 5) rfl rfl ?_
  refine Rn.step (pc' := 6) rfl rfl ?_
  refine Rn.getf (pc' := 9) rfl rfl rfl rfl rfl ?_
  refine Rn.iconst (v := 4) (pc' := 10) rfl (by decide) rfl ?_
  refine Rn.sald (k := 4) (pc' := 11) rfl rfl (by simp only [nI_lit, nI_add, pk_mul]) (by omega) (by decide) rfl ?_
  refine Rn.icmp_ge (pc1 := 123) (pc2 := 14) rfl rfl rfl (fun h11 => ?_) (fun h11 => ?_)
  · have hk2 : k = Wn := by
      have := (nI_leI (by omega) (by omega)).mp (hs4 ▸ h11)
      omega
    subst hk2
    refine Rn.step (pc' := 124) rfl rfl ?_
    exact Rn.reti rfl (rfl) (rfl) (rfl)
  · have hk2 : k < Wn := by
      have := mt (nI_leI (a := Wn) (b := k) (by omega) (by omega)).mpr (hs4 ▸ h11)
      omega
    obtain ⟨b, hb6, hb0⟩ := hw k hk2
    have hb : (mPy s k).1 (60 + 4 * k) = nI b := (mPy_out hw k hk _ (fun c hc => by omega)).trans hb0
    have hstep := mPy_s s hb hb6
    refine Rn.iconst (v := 60) (pc' := 16) rfl (by decide) rfl ?_
    refine Rn.iconst (v := 4) (pc' := 17) rfl (by decide) rfl ?_
    refine Rn.step (pc' := 18) rfl rfl ?_
    refine Rn.imul (pc' := 19) rfl rfl ?_
    refine Rn.iadd (pc' := 20) rfl rfl ?_
    refine Rn.step (pc' := 21) rfl rfl ?_
    refine Rn.iconst (v := 10) (pc' := 23) rfl (by decide) rfl ?_
    refine Rn.iconst (v := 6) (pc' := 25) rfl (by decide) rfl ?_
    refine Rn.step (pc' := 26) rfl rfl ?_
    refine Rn.getf (pc' := 29) rfl rfl rfl rfl rfl ?_
    refine Rn.step (pc' := 30) rfl rfl ?_
    refine Rn.sald (k := 60 + 4 * k) (pc' := 31) rfl rfl (by simp only [nI_lit, nI_add, pk_mul]) (by omega) (by decide) rfl ?_
    refine Rn.imul (pc' := 32) rfl rfl ?_
    refine Rn.iadd (pc' := 33) rfl rfl ?_
    refine Rn.step (pc' := 35) rfl rfl ?_
    refine Rn.step (pc' := 36) rfl rfl ?_
    refine Rn.getf (pc' := 39) rfl rfl rfl rfl rfl ?_
    refine Rn.step (pc' := 40) rfl rfl ?_
    refine Rn.iconst (v := 2) (pc' := 41) rfl (by decide) rfl ?_
    refine Rn.iadd (pc' := 42) rfl rfl ?_
    refine Rn.sald (k := 60 + 4 * k + 2) (pc' := 43) rfl rfl (by simp only [nI_lit, nI_add, pk_mul]) (by omega) (by decide) rfl ?_
    refine Rn.step (pc' := 44) rfl rfl ?_
    refine Rn.getf (pc' := 47) rfl rfl rfl rfl rfl ?_
    refine Rn.iconst (v := 5) (pc' := 48) rfl (by decide) rfl ?_
    refine Rn.sald (k := 5) (pc' := 49) rfl rfl (by simp only [nI_lit, nI_add, pk_mul]) (by omega) (by decide) rfl ?_
    refine Rn.icmp_ne (pc1 := 117) (pc2 := 52) rfl rfl rfl (fun h49 => ?_) (fun h49 => ?_)
    · refine Rn.step (pc' := 120) rfl rfl ?_
      refine Rn.step (pc' := 4) rfl rfl ?_
      rw [if_neg (fun z => h49 z.1)] at hstep
      exact Rn.mm (m2 := MS m0 v dx A LA (mPy s (k + 1)).1) (by rw [hstep]) (Rn.ls5 rfl (congrArg Value.int (by rw [hstep])) (congrArg Value.int (nI_i1 k)) rfl rfl (l_M_earnsNow hW hWn hw (k + 1) _ _ (by omega)))
    · refine Rn.step (pc' := 53) rfl rfl ?_
      refine Rn.getf (pc' := 56) rfl rfl rfl rfl rfl ?_
      refine Rn.step (pc' := 58) rfl rfl ?_
      refine Rn.sald (k := 10 + 6 * b) (pc' := 59) rfl rfl (by rw [hb]; simp only [nI_lit, nI_add, pk_mul]) (by omega) (by decide) rfl ?_
      refine Rn.step (pc' := 60) rfl rfl ?_
      refine Rn.getf (pc' := 63) rfl rfl rfl rfl rfl ?_
      refine Rn.step (pc' := 64) rfl rfl ?_
      refine Rn.iconst (v := 1) (pc' := 65) rfl (by decide) rfl ?_
      refine Rn.iadd (pc' := 66) rfl rfl ?_
      refine Rn.sald (k := 60 + 4 * k + 1) (pc' := 67) rfl rfl (by simp only [nI_lit, nI_add, pk_mul]) (by omega) (by decide) rfl ?_
      refine Rn.icmp_ne (pc1 := 117) (pc2 := 70) rfl rfl rfl (fun h67 => ?_) (fun h67 => ?_)
      · refine Rn.step (pc' := 120) rfl rfl ?_
        refine Rn.step (pc' := 4) rfl rfl ?_
        rw [if_neg (fun z => h67 z.2.1)] at hstep
        exact Rn.mm (m2 := MS m0 v dx A LA (mPy s (k + 1)).1) (by rw [hstep]) (Rn.ls5 rfl (congrArg Value.int (by rw [hstep])) (congrArg Value.int (nI_i1 k)) rfl rfl (l_M_earnsNow hW hWn hw (k + 1) _ _ (by omega)))
      · refine Rn.step (pc' := 71) rfl rfl ?_
        refine Rn.getf (pc' := 74) rfl rfl rfl rfl rfl ?_
        refine Rn.step (pc' := 76) rfl rfl ?_
        refine Rn.iconst (v := 4) (pc' := 77) rfl (by decide) rfl ?_
        refine Rn.iadd (pc' := 78) rfl rfl ?_
        refine Rn.sald (k := 10 + 6 * b + 4) (pc' := 79) rfl rfl (by rw [hb]; simp only [nI_lit, nI_add, pk_mul]) (by omega) (by decide) rfl ?_
        refine Rn.iconst (v := 1) (pc' := 80) rfl (by decide) rfl ?_
        refine Rn.icmp_ne (pc1 := 86) (pc2 := 83) rfl rfl rfl (fun h80 => ?_) (fun h80 => ?_)
        · refine Rn.step (pc' := 87) rfl rfl ?_
          refine Rn.getf (pc' := 90) rfl rfl rfl rfl rfl ?_
          refine Rn.step (pc' := 92) rfl rfl ?_
          refine Rn.iconst (v := 5) (pc' := 93) rfl (by decide) rfl ?_
          refine Rn.iadd (pc' := 94) rfl rfl ?_
          refine Rn.step (pc' := 95) rfl rfl ?_
          refine Rn.sald (k := 10 + 6 * b + 5) (pc' := 96) rfl rfl (by rw [hb]; simp only [nI_lit, nI_add, pk_mul]) (by omega) (by decide) rfl ?_
          refine Rn.step (pc' := 97) rfl rfl ?_
          refine Rn.getf (pc' := 100) rfl rfl rfl rfl rfl ?_
          refine Rn.step (pc' := 101) rfl rfl ?_
          refine Rn.iconst (v := 3) (pc' := 102) rfl (by decide) rfl ?_
          refine Rn.iadd (pc' := 103) rfl rfl ?_
          refine Rn.sald (k := 60 + 4 * k + 3) (pc' := 104) rfl rfl (by simp only [nI_lit, nI_add, pk_mul]) (by omega) (by decide) rfl ?_
          refine Rn.iadd (pc' := 105) rfl rfl ?_
          refine Rn.sast (k := 10 + 6 * b + 5) (pc' := 106) rfl rfl (by rw [hb]; simp only [nI_lit, nI_add, pk_mul]) (by omega) (by decide) rfl ?_
          refine Rn.step (pc' := 107) rfl rfl ?_
          refine Rn.step (pc' := 108) rfl rfl ?_
          refine Rn.getf (pc' := 111) rfl rfl rfl rfl rfl ?_
          refine Rn.step (pc' := 112) rfl rfl ?_
          refine Rn.iconst (v := 3) (pc' := 113) rfl (by decide) rfl ?_
          refine Rn.iadd (pc' := 114) rfl rfl ?_
          refine Rn.sald (k := 60 + 4 * k + 3) (pc' := 115) rfl rfl (by simp only [nI_lit, nI_add, pk_mul]) (by omega) (by decide) rfl ?_
          refine Rn.iadd (pc' := 116) rfl rfl ?_
          refine Rn.step (pc' := 117) rfl rfl ?_
          refine Rn.step (pc' := 120) rfl rfl ?_
          refine Rn.step (pc' := 4) rfl rfl ?_
          rw [if_pos ⟨h49, h67, h80⟩] at hstep
          refine Rn.mm (m2 := MS m0 v dx A LA (mPy s (k + 1)).1) (by rw [hstep]) (Rn.ls5 rfl (congrArg Value.int ?_) (congrArg Value.int (nI_i1 k)) rfl rfl (l_M_earnsNow hW hWn hw (k + 1) _ _ (by omega)))
          rw [hstep, upd_n _ _ (show 60 + 4 * k + 3 ≠ 10 + 6 * b + 5 by omega)]
        · refine Rn.step (pc' := 117) rfl rfl ?_
          refine Rn.step (pc' := 120) rfl rfl ?_
          refine Rn.step (pc' := 4) rfl rfl ?_
          rw [if_neg (fun z => z.2.2 h80)] at hstep
          exact Rn.mm (m2 := MS m0 v dx A LA (mPy s (k + 1)).1) (by rw [hstep]) (Rn.ls5 rfl (congrArg Value.int (by rw [hstep])) (congrArg Value.int (nI_i1 k)) rfl rfl (l_M_earnsNow hW hWn hw (k + 1) _ _ (by omega)))
termination_by Wn - k
theorem c_M_earnsNow {d Wn : Nat} (hW : s 4 = nI Wn) (hWn : Wn ≤ 10) (hw : ∀ k, k < Wn → ∃ b, b < 6 ∧ s (60 + 4 * k) = nI b) : Cl d j_M_earnsNow [.ref 50] (MS m0 v dx A LA s) (Pi (mPy s Wn).2 (MS m0 v dx A LA (mPy s Wn).1)) := by
  show Rn d j_M_earnsNow 0 _ _ _ _
  refine Rn.iconst (v := 0) (pc' := 1) rfl (by decide) rfl ?_
  refine Rn.step (pc' := 2) rfl rfl ?_
  refine Rn.iconst (v := 0) (pc' := 3) rfl (by decide) rfl ?_
  refine Rn.step (pc' := 4) rfl rfl ?_
  exact l_M_earnsNow hW hWn hw 0 _ _ (Nat.zero_le _)
def mW1 (s : Nat → Int32) (x : Int32) (k : Nat) : Int32 := if ¬ s (46 + 3 * k) = x ∨ ¬ s (46 + 3 * k + 2) < s 8 then 1 else 0
def mWk (s : Nat → Int32) (x : Int32) : Nat → Int32
  | 0 => 0
  | k + 1 => mWk s x k + mW1 s x k
/-- how many feet get wet -/
def mWf (s : Nat → Int32) (sec x : Int32) : Int32 := if x = sec then 0 else mWk s x 2
theorem l_M_wetFeet {d : Nat} {x : Int32} (hx : ¬ x = v 23) (hd : 2 ≤ d) (k : Nat) (hk : k ≤ 2) : Rn d j_M_wetFeet 4 [.ref 50, .int x, .int (mWk s x k), .int (nI k)] [] (MS m0 v dx A LA s) (Pi (mWk s x 2) (MS m0 v dx A LA s)) := by
  refine Rn.step (pc' := 5) rfl rfl ?_
  refine Rn.iconst (v := 2) (pc' := 6) rfl (by decide) rfl ?_
  refine Rn.icmp_ge (pc1 := 48) (pc2 := 9) rfl rfl rfl (fun h6 => ?_) (fun h6 => ?_)
  · have hk2 : k = 2 := by
      have := (nI_leI (a := 2) (b := k) (by omega) (by omega)).mp h6
      omega
    subst hk2
    refine Rn.step (pc' := 49) rfl rfl ?_
    exact Rn.reti rfl (rfl) (rfl) (rfl)
  · have hk2 : k < 2 := by
      have := mt (nI_leI (a := 2) (b := k) (by omega) (by omega)).mpr h6
      omega
    refine Rn.step (pc' := 10) rfl rfl ?_
    refine Rn.step (pc' := 11) rfl rfl ?_
    refine Rn.getf (pc' := 14) rfl rfl rfl rfl rfl ?_
    refine Rn.icmp_eq (pc1 := 48) (pc2 := 17) rfl rfl rfl (fun h14 => absurd h14 (hx)) (fun h14 => ?_)
    refine Rn.step (pc' := 18) rfl rfl ?_
    refine Rn.step (pc' := 19) rfl rfl ?_
    refine Rn.step (pc' := 20) rfl rfl ?_
    refine Rn.vi (pc' := 23) rfl (by decide) (by omega) rfl rfl rfl (c_M_wearerOf k (by omega)) ?_
    refine Rn.step (pc' := 24) rfl rfl ?_
    refine Rn.icmp_ne (pc1 := 35) (pc2 := 27) rfl rfl rfl (fun h24 => ?_) (fun h24 => ?_)
    · refine Rn.iconst (v := 1) (pc' := 36) rfl (by decide) rfl ?_
      refine Rn.step (pc' := 40) rfl rfl ?_
      refine Rn.iadd (pc' := 41) rfl rfl ?_
      refine Rn.step (pc' := 42) rfl rfl ?_
      refine Rn.step (pc' := 45) rfl rfl ?_
      refine Rn.step (pc' := 4) rfl rfl ?_
      refine Rn.ls4 rfl rfl (congrArg Value.int ?_) (congrArg Value.int (nI_i1 k)) (l_M_wetFeet hx hd (k + 1) (by omega))
      refine congrArg (mWk s x k + ·) ?_
      exact (if_pos (Or.inl h24)).symm
    · refine Rn.step (pc' := 28) rfl rfl ?_
      refine Rn.step (pc' := 29) rfl rfl ?_
      refine Rn.vi (pc' := 32) rfl (by decide) (by omega) rfl rfl rfl (c_M_isHoled (by omega) k (by omega)) ?_
      refine Rn.ifc_eq (pc1 := 39) (pc2 := 35) rfl rfl rfl (fun h32 => ?_) (fun h32 => ?_)
      · refine Rn.iconst (v := 0) (pc' := 40) rfl (by decide) rfl ?_
        refine Rn.iadd (pc' := 41) rfl rfl ?_
        refine Rn.step (pc' := 42) rfl rfl ?_
        refine Rn.step (pc' := 45) rfl rfl ?_
        refine Rn.step (pc' := 4) rfl rfl ?_
        refine Rn.ls4 rfl rfl (congrArg Value.int ?_) (congrArg Value.int (nI_i1 k)) (l_M_wetFeet hx hd (k + 1) (by omega))
        refine congrArg (mWk s x k + ·) ?_
        refine (if_neg fun z => z.elim (fun c => c h24) (fun y => ?_)).symm
        rw [if_neg y] at h32
        exact absurd (show (1 : Int32) = 0 from h32) (by decide)
      · refine Rn.iconst (v := 1) (pc' := 36) rfl (by decide) rfl ?_
        refine Rn.step (pc' := 40) rfl rfl ?_
        refine Rn.iadd (pc' := 41) rfl rfl ?_
        refine Rn.step (pc' := 42) rfl rfl ?_
        refine Rn.step (pc' := 45) rfl rfl ?_
        refine Rn.step (pc' := 4) rfl rfl ?_
        refine Rn.ls4 rfl rfl (congrArg Value.int ?_) (congrArg Value.int (nI_i1 k)) (l_M_wetFeet hx hd (k + 1) (by omega))
        refine congrArg (mWk s x k + ·) ?_
        refine (if_pos (Or.inr fun y => ?_)).symm
        rw [if_pos y] at h32
        exact h32 rfl
termination_by 2 - k
theorem c_M_wetFeet {d : Nat} (hd : 2 ≤ d) (x : Int32) : Cl d j_M_wetFeet [.ref 50, .int x] (MS m0 v dx A LA s) (Pi (mWf s (v 23) x) (MS m0 v dx A LA s)) := by
  show Rn d j_M_wetFeet 0 _ _ _ _
  unfold mWf
  by_cases hx : x = v 23
  · rw [if_pos hx]
    refine Rn.iconst (v := 0) (pc' := 1) rfl (by decide) rfl ?_
    refine Rn.step (pc' := 2) rfl rfl ?_
    refine Rn.iconst (v := 0) (pc' := 3) rfl (by decide) rfl ?_
    refine Rn.step (pc' := 4) rfl rfl ?_
    refine Rn.step (pc' := 5) rfl rfl ?_
    refine Rn.iconst (v := 2) (pc' := 6) rfl (by decide) rfl ?_
    refine Rn.icmp_ge (pc1 := 48) (pc2 := 9) rfl rfl rfl (fun h6 => absurd h6 (show ¬ (2 : Int32) ≤ 0 from by decide)) (fun h6 => ?_)
    refine Rn.step (pc' := 10) rfl rfl ?_
    refine Rn.step (pc' := 11) rfl rfl ?_
    refine Rn.getf (pc' := 14) rfl rfl rfl rfl rfl ?_
    refine Rn.icmp_eq (pc1 := 48) (pc2 := 17) rfl rfl rfl (fun h14 => ?_) (fun h14 => absurd (hx) h14)
    refine Rn.step (pc' := 49) rfl rfl ?_
    exact Rn.reti rfl (rfl) (rfl) (rfl)
  · rw [if_neg hx]
    refine Rn.iconst (v := 0) (pc' := 1) rfl (by decide) rfl ?_
    refine Rn.step (pc' := 2) rfl rfl ?_
    refine Rn.iconst (v := 0) (pc' := 3) rfl (by decide) rfl ?_
    refine Rn.step (pc' := 4) rfl rfl ?_
    exact l_M_wetFeet hx hd 0 (by omega)
def mCn (s : Nat → Int32) (sec much : Int32) (b : Nat) : Int32 := if s (10 + 6 * b) = s (10 + 6 * b + 1) then s (10 + 6 * b + 3) - 4 else s (10 + 6 * b + 3) + much * mWf s sec (nI b) * s (100 + (s (10 + 6 * b)).toNatClampNeg)
def mCl (n : Int32) : Int32 := if n < 0 then 0 else if 99 < n then 99 else n
/-- how cold b is then, and whether he is frozen now -/
def mCh (s : Nat → Int32) (sec much : Int32) (b : Nat) : Nat → Int32 := if mCl (mCn s sec much b) < 60 ∨ s (10 + 6 * b + 4) = 1 then upd s (10 + 6 * b + 3) (mCl (mCn s sec much b)) else upd (upd s (10 + 6 * b + 3) (mCl (mCn s sec much b))) (10 + 6 * b + 4) 1
def mCz (s : Nat → Int32) (sec much : Int32) (b : Nat) (z : Int32) : Int32 := if mCl (mCn s sec much b) < 60 ∨ s (10 + 6 * b + 4) = 1 then z else z + 1
theorem c_M_chills {d : Nat} (hd : 3 ≤ d) (b : Nat) (much : Int32) (hb : b < 6) (hp : ∃ q, q < 10 ∧ s (10 + 6 * b) = nI q) : Cl d j_M_chills [.ref 50, .int (nI b), .int much] (MS m0 v dx A LA s) (Pv (MS m0 (upd v 25 (mCz s (v 23) much b (v 25))) dx A LA (mCh s (v 23) much b))) := by
  show Rn d j_M_chills 0 _ _ _ _
  obtain ⟨q, hq10, hq⟩ := hp
  refine Rn.iconst (v := 10) (pc' := 2) rfl (by decide) rfl ?_
  refine Rn.iconst (v := 6) (pc' := 4) rfl (by decide) rfl ?_
  refine Rn.step (pc' := 5) rfl rfl ?_
  refine Rn.imul (pc' := 6) rfl rfl ?_
  refine Rn.iadd (pc' := 7) rfl rfl ?_
  refine Rn.step (pc' := 8) rfl rfl ?_
  refine Rn.step (pc' := 9) rfl rfl ?_
  refine Rn.getf (pc' := 12) rfl rfl rfl rfl rfl ?_
  refine Rn.step (pc' := 13) rfl rfl ?_
  refine Rn.sald (k := 10 + 6 * b) (pc' := 14) rfl rfl (by simp only [nI_lit, nI_add, pk_mul]) (by omega) (by decide) rfl ?_
  refine Rn.step (pc' := 15) rfl rfl ?_
  refine Rn.getf (pc' := 18) rfl rfl rfl rfl rfl ?_
  refine Rn.step (pc' := 19) rfl rfl ?_
  refine Rn.iconst (v := 1) (pc' := 20) rfl (by decide) rfl ?_
  refine Rn.iadd (pc' := 21) rfl rfl ?_
  refine Rn.sald (k := 10 + 6 * b + 1) (pc' := 22) rfl rfl (by simp only [nI_lit, nI_add, pk_mul]) (by omega) (by decide) rfl ?_
  refine Rn.icmp_ne (pc1 := 38) (pc2 := 25) rfl rfl rfl (fun h22 => ?_) (fun h22 => ?_)
  · refine Rn.step (pc' := 39) rfl rfl ?_
    refine Rn.getf (pc' := 42) rfl rfl rfl rfl rfl ?_
    refine Rn.step (pc' := 43) rfl rfl ?_
    refine Rn.iconst (v := 3) (pc' := 44) rfl (by decide) rfl ?_
    refine Rn.iadd (pc' := 45) rfl rfl ?_
    refine Rn.sald (k := 10 + 6 * b + 3) (pc' := 46) rfl rfl (by simp only [nI_lit, nI_add, pk_mul]) (by omega) (by decide) rfl ?_
    refine Rn.step (pc' := 47) rfl rfl ?_
    refine Rn.step (pc' := 48) rfl rfl ?_
    refine Rn.step (pc' := 49) rfl rfl ?_
    refine Rn.vi (pc' := 52) rfl (by decide) (by omega) rfl rfl rfl (c_M_wetFeet (by omega) (nI b)) ?_
    refine Rn.imul (pc' := 53) rfl rfl ?_
    refine Rn.step (pc' := 54) rfl rfl ?_
    refine Rn.getf (pc' := 57) rfl rfl rfl rfl rfl ?_
    refine Rn.iconst (v := 100) (pc' := 59) rfl (by decide) rfl ?_
    refine Rn.step (pc' := 60) rfl rfl ?_
    refine Rn.getf (pc' := 63) rfl rfl rfl rfl rfl ?_
    refine Rn.step (pc' := 64) rfl rfl ?_
    refine Rn.sald (k := 10 + 6 * b) (pc' := 65) rfl rfl (by simp only [nI_lit, nI_add, pk_mul]) (by omega) (by decide) rfl ?_
    refine Rn.iadd (pc' := 66) rfl rfl ?_
    refine Rn.sald (k := 100 + q) (pc' := 67) rfl rfl (by rw [hq]; simp only [nI_lit, nI_add]) (by omega) (by decide) rfl ?_
    refine Rn.imul (pc' := 68) rfl rfl ?_
    refine Rn.iadd (pc' := 69) rfl rfl ?_
    refine Rn.step (pc' := 71) rfl rfl ?_
    refine Rn.step (pc' := 72) rfl rfl ?_
    refine Rn.getf (pc' := 75) rfl rfl rfl rfl rfl ?_
    refine Rn.step (pc' := 76) rfl rfl ?_
    refine Rn.iconst (v := 3) (pc' := 77) rfl (by decide) rfl ?_
    refine Rn.iadd (pc' := 78) rfl rfl ?_
    refine Rn.step (pc' := 80) rfl rfl ?_
    refine Rn.ifc_ge (pc1 := 87) (pc2 := 83) rfl rfl rfl (fun h80 => ?_) (fun h80 => ?_)
    · refine Rn.step (pc' := 89) rfl rfl ?_
      refine Rn.iconst (v := 99) (pc' := 91) rfl (by decide) rfl ?_
      refine Rn.icmp_le (pc1 := 99) (pc2 := 94) rfl rfl rfl (fun h91 => ?_) (fun h91 => ?_)
      · refine Rn.step (pc' := 101) rfl rfl ?_
        refine Rn.sast (k := 10 + 6 * b + 3) (pc' := 102) rfl rfl (by simp only [nI_lit, nI_add, pk_mul]) (by omega) (by decide) rfl ?_
        refine Rn.step (pc' := 103) rfl rfl ?_
        refine Rn.getf (pc' := 106) rfl rfl rfl rfl rfl ?_
        refine Rn.step (pc' := 107) rfl rfl ?_
        refine Rn.iconst (v := 3) (pc' := 108) rfl (by decide) rfl ?_
        refine Rn.iadd (pc' := 109) rfl rfl ?_
        refine Rn.sald (k := 10 + 6 * b + 3) (pc' := 110) rfl rfl (by simp only [nI_lit, nI_add, pk_mul]) (by omega) (by decide) rfl ?_
        refine Rn.iconst (v := 60) (pc' := 112) rfl (by decide) rfl ?_
        refine Rn.icmp_lt (pc1 := 127) (pc2 := 115) rfl rfl rfl (fun h112 => ?_) (fun h112 => ?_)
        · exact Rn.retv rfl (by
              have hcl : mCl (mCn s (v 23) much b) = (s (10 + 6 * b + 3) + much * mWf s (v 23) (nI b) * s (100 + q)) := by
                have hcn : mCn s (v 23) much b = (s (10 + 6 * b + 3) + much * mWf s (v 23) (nI b) * s (100 + q)) := by
                  unfold mCn
                  rw [if_neg h22, hq, nI_clamp (by omega)]
                rw [hcn]
                unfold mCl
                rw [if_neg (Int32.not_lt.mpr h80), if_neg (Int32.not_lt.mpr h91)]
              rw [upd_s] at h112
              unfold mCh mCz
              rw [hcl, if_pos (Or.inl h112), if_pos (Or.inl h112), upd_id])
        · refine Rn.step (pc' := 116) rfl rfl ?_
          refine Rn.getf (pc' := 119) rfl rfl rfl rfl rfl ?_
          refine Rn.step (pc' := 120) rfl rfl ?_
          refine Rn.iconst (v := 4) (pc' := 121) rfl (by decide) rfl ?_
          refine Rn.iadd (pc' := 122) rfl rfl ?_
          refine Rn.sald (k := 10 + 6 * b + 4) (pc' := 123) rfl rfl (by simp only [nI_lit, nI_add, pk_mul]) (by omega) (by decide) rfl ?_
          refine Rn.iconst (v := 1) (pc' := 124) rfl (by decide) rfl ?_
          refine Rn.icmp_ne (pc1 := 128) (pc2 := 127) rfl rfl rfl (fun h124 => ?_) (fun h124 => ?_)
          · refine Rn.step (pc' := 129) rfl rfl ?_
            refine Rn.getf (pc' := 132) rfl rfl rfl rfl rfl ?_
            refine Rn.step (pc' := 133) rfl rfl ?_
            refine Rn.iconst (v := 4) (pc' := 134) rfl (by decide) rfl ?_
            refine Rn.iadd (pc' := 135) rfl rfl ?_
            refine Rn.iconst (v := 1) (pc' := 136) rfl (by decide) rfl ?_
            refine Rn.sast (k := 10 + 6 * b + 4) (pc' := 137) rfl rfl (by simp only [nI_lit, nI_add, pk_mul]) (by omega) (by decide) rfl ?_
            refine Rn.step (pc' := 138) rfl rfl ?_
            refine Rn.step (pc' := 139) rfl rfl ?_
            refine Rn.getf (pc' := 142) rfl rfl rfl rfl rfl ?_
            refine Rn.iconst (v := 1) (pc' := 143) rfl (by decide) rfl ?_
            refine Rn.iadd (pc' := 144) rfl rfl ?_
            refine Rn.mput (pc' := 147) rfl rfl rfl rfl (by decide) rfl ?_
            exact Rn.retv rfl (by
                have hcl : mCl (mCn s (v 23) much b) = (s (10 + 6 * b + 3) + much * mWf s (v 23) (nI b) * s (100 + q)) := by
                  have hcn : mCn s (v 23) much b = (s (10 + 6 * b + 3) + much * mWf s (v 23) (nI b) * s (100 + q)) := by
                    unfold mCn
                    rw [if_neg h22, hq, nI_clamp (by omega)]
                  rw [hcn]
                  unfold mCl
                  rw [if_neg (Int32.not_lt.mpr h80), if_neg (Int32.not_lt.mpr h91)]
                rw [upd_s] at h112
                rw [upd_n _ _ (show 10 + 6 * b + 4 ≠ 10 + 6 * b + 3 by omega)] at h124
                unfold mCh mCz
                rw [hcl, if_neg (fun z => z.elim h112 h124), if_neg (fun z => z.elim h112 h124)])
          · exact Rn.retv rfl (by
                have hcl : mCl (mCn s (v 23) much b) = (s (10 + 6 * b + 3) + much * mWf s (v 23) (nI b) * s (100 + q)) := by
                  have hcn : mCn s (v 23) much b = (s (10 + 6 * b + 3) + much * mWf s (v 23) (nI b) * s (100 + q)) := by
                    unfold mCn
                    rw [if_neg h22, hq, nI_clamp (by omega)]
                  rw [hcn]
                  unfold mCl
                  rw [if_neg (Int32.not_lt.mpr h80), if_neg (Int32.not_lt.mpr h91)]
                rw [upd_n _ _ (show 10 + 6 * b + 4 ≠ 10 + 6 * b + 3 by omega)] at h124
                unfold mCh mCz
                rw [hcl, if_pos (Or.inr h124), if_pos (Or.inr h124), upd_id])
      · refine Rn.iconst (v := 99) (pc' := 96) rfl (by decide) rfl ?_
        refine Rn.step (pc' := 101) rfl rfl ?_
        refine Rn.sast (k := 10 + 6 * b + 3) (pc' := 102) rfl rfl (by simp only [nI_lit, nI_add, pk_mul]) (by omega) (by decide) rfl ?_
        refine Rn.step (pc' := 103) rfl rfl ?_
        refine Rn.getf (pc' := 106) rfl rfl rfl rfl rfl ?_
        refine Rn.step (pc' := 107) rfl rfl ?_
        refine Rn.iconst (v := 3) (pc' := 108) rfl (by decide) rfl ?_
        refine Rn.iadd (pc' := 109) rfl rfl ?_
        refine Rn.sald (k := 10 + 6 * b + 3) (pc' := 110) rfl rfl (by simp only [nI_lit, nI_add, pk_mul]) (by omega) (by decide) rfl ?_
        refine Rn.iconst (v := 60) (pc' := 112) rfl (by decide) rfl ?_
        refine Rn.icmp_lt (pc1 := 127) (pc2 := 115) rfl rfl rfl (fun h112 => ?_) (fun h112 => ?_)
        · exact Rn.retv rfl (by
              have hcl : mCl (mCn s (v 23) much b) = 99 := by
                have hcn : mCn s (v 23) much b = (s (10 + 6 * b + 3) + much * mWf s (v 23) (nI b) * s (100 + q)) := by
                  unfold mCn
                  rw [if_neg h22, hq, nI_clamp (by omega)]
                rw [hcn]
                unfold mCl
                rw [if_neg (Int32.not_lt.mpr h80), if_pos (Int32.not_le.mp h91)]
              rw [upd_s] at h112
              unfold mCh mCz
              rw [hcl, if_pos (Or.inl h112), if_pos (Or.inl h112), upd_id])
        · refine Rn.step (pc' := 116) rfl rfl ?_
          refine Rn.getf (pc' := 119) rfl rfl rfl rfl rfl ?_
          refine Rn.step (pc' := 120) rfl rfl ?_
          refine Rn.iconst (v := 4) (pc' := 121) rfl (by decide) rfl ?_
          refine Rn.iadd (pc' := 122) rfl rfl ?_
          refine Rn.sald (k := 10 + 6 * b + 4) (pc' := 123) rfl rfl (by simp only [nI_lit, nI_add, pk_mul]) (by omega) (by decide) rfl ?_
          refine Rn.iconst (v := 1) (pc' := 124) rfl (by decide) rfl ?_
          refine Rn.icmp_ne (pc1 := 128) (pc2 := 127) rfl rfl rfl (fun h124 => ?_) (fun h124 => ?_)
          · refine Rn.step (pc' := 129) rfl rfl ?_
            refine Rn.getf (pc' := 132) rfl rfl rfl rfl rfl ?_
            refine Rn.step (pc' := 133) rfl rfl ?_
            refine Rn.iconst (v := 4) (pc' := 134) rfl (by decide) rfl ?_
            refine Rn.iadd (pc' := 135) rfl rfl ?_
            refine Rn.iconst (v := 1) (pc' := 136) rfl (by decide) rfl ?_
            refine Rn.sast (k := 10 + 6 * b + 4) (pc' := 137) rfl rfl (by simp only [nI_lit, nI_add, pk_mul]) (by omega) (by decide) rfl ?_
            refine Rn.step (pc' := 138) rfl rfl ?_
            refine Rn.step (pc' := 139) rfl rfl ?_
            refine Rn.getf (pc' := 142) rfl rfl rfl rfl rfl ?_
            refine Rn.iconst (v := 1) (pc' := 143) rfl (by decide) rfl ?_
            refine Rn.iadd (pc' := 144) rfl rfl ?_
            refine Rn.mput (pc' := 147) rfl rfl rfl rfl (by decide) rfl ?_
            exact Rn.retv rfl (by
                have hcl : mCl (mCn s (v 23) much b) = 99 := by
                  have hcn : mCn s (v 23) much b = (s (10 + 6 * b + 3) + much * mWf s (v 23) (nI b) * s (100 + q)) := by
                    unfold mCn
                    rw [if_neg h22, hq, nI_clamp (by omega)]
                  rw [hcn]
                  unfold mCl
                  rw [if_neg (Int32.not_lt.mpr h80), if_pos (Int32.not_le.mp h91)]
                rw [upd_s] at h112
                rw [upd_n _ _ (show 10 + 6 * b + 4 ≠ 10 + 6 * b + 3 by omega)] at h124
                unfold mCh mCz
                rw [hcl, if_neg (fun z => z.elim h112 h124), if_neg (fun z => z.elim h112 h124)])
          · exact Rn.retv rfl (by
                have hcl : mCl (mCn s (v 23) much b) = 99 := by
                  have hcn : mCn s (v 23) much b = (s (10 + 6 * b + 3) + much * mWf s (v 23) (nI b) * s (100 + q)) := by
                    unfold mCn
                    rw [if_neg h22, hq, nI_clamp (by omega)]
                  rw [hcn]
                  unfold mCl
                  rw [if_neg (Int32.not_lt.mpr h80), if_pos (Int32.not_le.mp h91)]
                rw [upd_n _ _ (show 10 + 6 * b + 4 ≠ 10 + 6 * b + 3 by omega)] at h124
                unfold mCh mCz
                rw [hcl, if_pos (Or.inr h124), if_pos (Or.inr h124), upd_id])
    · refine Rn.iconst (v := 0) (pc' := 84) rfl (by decide) rfl ?_
      refine Rn.step (pc' := 101) rfl rfl ?_
      refine Rn.sast (k := 10 + 6 * b + 3) (pc' := 102) rfl rfl (by simp only [nI_lit, nI_add, pk_mul]) (by omega) (by decide) rfl ?_
      refine Rn.step (pc' := 103) rfl rfl ?_
      refine Rn.getf (pc' := 106) rfl rfl rfl rfl rfl ?_
      refine Rn.step (pc' := 107) rfl rfl ?_
      refine Rn.iconst (v := 3) (pc' := 108) rfl (by decide) rfl ?_
      refine Rn.iadd (pc' := 109) rfl rfl ?_
      refine Rn.sald (k := 10 + 6 * b + 3) (pc' := 110) rfl rfl (by simp only [nI_lit, nI_add, pk_mul]) (by omega) (by decide) rfl ?_
      refine Rn.iconst (v := 60) (pc' := 112) rfl (by decide) rfl ?_
      refine Rn.icmp_lt (pc1 := 127) (pc2 := 115) rfl rfl rfl (fun h112 => ?_) (fun h112 => ?_)
      · exact Rn.retv rfl (by
            have hcl : mCl (mCn s (v 23) much b) = 0 := by
              have hcn : mCn s (v 23) much b = (s (10 + 6 * b + 3) + much * mWf s (v 23) (nI b) * s (100 + q)) := by
                unfold mCn
                rw [if_neg h22, hq, nI_clamp (by omega)]
              rw [hcn]
              unfold mCl
              rw [if_pos (Int32.not_le.mp h80)]
            rw [upd_s] at h112
            unfold mCh mCz
            rw [hcl, if_pos (Or.inl h112), if_pos (Or.inl h112), upd_id])
      · refine Rn.step (pc' := 116) rfl rfl ?_
        refine Rn.getf (pc' := 119) rfl rfl rfl rfl rfl ?_
        refine Rn.step (pc' := 120) rfl rfl ?_
        refine Rn.iconst (v := 4) (pc' := 121) rfl (by decide) rfl ?_
        refine Rn.iadd (pc' := 122) rfl rfl ?_
        refine Rn.sald (k := 10 + 6 * b + 4) (pc' := 123) rfl rfl (by simp only [nI_lit, nI_add, pk_mul]) (by omega) (by decide) rfl ?_
        refine Rn.iconst (v := 1) (pc' := 124) rfl (by decide) rfl ?_
        refine Rn.icmp_ne (pc1 := 128) (pc2 := 127) rfl rfl rfl (fun h124 => ?_) (fun h124 => ?_)
        · refine Rn.step (pc' := 129) rfl rfl ?_
          refine Rn.getf (pc' := 132) rfl rfl rfl rfl rfl ?_
          refine Rn.step (pc' := 133) rfl rfl ?_
          refine Rn.iconst (v := 4) (pc' := 134) rfl (by decide) rfl ?_
          refine Rn.iadd (pc' := 135) rfl rfl ?_
          refine Rn.iconst (v := 1) (pc' := 136) rfl (by decide) rfl ?_
          refine Rn.sast (k := 10 + 6 * b + 4) (pc' := 137) rfl rfl (by simp only [nI_lit, nI_add, pk_mul]) (by omega) (by decide) rfl ?_
          refine Rn.step (pc' := 138) rfl rfl ?_
          refine Rn.step (pc' := 139) rfl rfl ?_
          refine Rn.getf (pc' := 142) rfl rfl rfl rfl rfl ?_
          refine Rn.iconst (v := 1) (pc' := 143) rfl (by decide) rfl ?_
          refine Rn.iadd (pc' := 144) rfl rfl ?_
          refine Rn.mput (pc' := 147) rfl rfl rfl rfl (by decide) rfl ?_
          exact Rn.retv rfl (by
              have hcl : mCl (mCn s (v 23) much b) = 0 := by
                have hcn : mCn s (v 23) much b = (s (10 + 6 * b + 3) + much * mWf s (v 23) (nI b) * s (100 + q)) := by
                  unfold mCn
                  rw [if_neg h22, hq, nI_clamp (by omega)]
                rw [hcn]
                unfold mCl
                rw [if_pos (Int32.not_le.mp h80)]
              rw [upd_s] at h112
              rw [upd_n _ _ (show 10 + 6 * b + 4 ≠ 10 + 6 * b + 3 by omega)] at h124
              unfold mCh mCz
              rw [hcl, if_neg (fun z => z.elim h112 h124), if_neg (fun z => z.elim h112 h124)])
        · exact Rn.retv rfl (by
              have hcl : mCl (mCn s (v 23) much b) = 0 := by
                have hcn : mCn s (v 23) much b = (s (10 + 6 * b + 3) + much * mWf s (v 23) (nI b) * s (100 + q)) := by
                  unfold mCn
                  rw [if_neg h22, hq, nI_clamp (by omega)]
                rw [hcn]
                unfold mCl
                rw [if_pos (Int32.not_le.mp h80)]
              rw [upd_n _ _ (show 10 + 6 * b + 4 ≠ 10 + 6 * b + 3 by omega)] at h124
              unfold mCh mCz
              rw [hcl, if_pos (Or.inr h124), if_pos (Or.inr h124), upd_id])
  · refine Rn.step (pc' := 26) rfl rfl ?_
    refine Rn.getf (pc' := 29) rfl rfl rfl rfl rfl ?_
    refine Rn.step (pc' := 30) rfl rfl ?_
    refine Rn.iconst (v := 3) (pc' := 31) rfl (by decide) rfl ?_
    refine Rn.iadd (pc' := 32) rfl rfl ?_
    refine Rn.sald (k := 10 + 6 * b + 3) (pc' := 33) rfl rfl (by simp only [nI_lit, nI_add, pk_mul]) (by omega) (by decide) rfl ?_
    refine Rn.iconst (v := 4) (pc' := 34) rfl (by decide) rfl ?_
    refine Rn.isub (pc' := 35) rfl rfl ?_
    refine Rn.step (pc' := 69) rfl rfl ?_
    refine Rn.step (pc' := 71) rfl rfl ?_
    refine Rn.step (pc' := 72) rfl rfl ?_
    refine Rn.getf (pc' := 75) rfl rfl rfl rfl rfl ?_
    refine Rn.step (pc' := 76) rfl rfl ?_
    refine Rn.iconst (v := 3) (pc' := 77) rfl (by decide) rfl ?_
    refine Rn.iadd (pc' := 78) rfl rfl ?_
    refine Rn.step (pc' := 80) rfl rfl ?_
    refine Rn.ifc_ge (pc1 := 87) (pc2 := 83) rfl rfl rfl (fun h80 => ?_) (fun h80 => ?_)
    · refine Rn.step (pc' := 89) rfl rfl ?_
      refine Rn.iconst (v := 99) (pc' := 91) rfl (by decide) rfl ?_
      refine Rn.icmp_le (pc1 := 99) (pc2 := 94) rfl rfl rfl (fun h91 => ?_) (fun h91 => ?_)
      · refine Rn.step (pc' := 101) rfl rfl ?_
        refine Rn.sast (k := 10 + 6 * b + 3) (pc' := 102) rfl rfl (by simp only [nI_lit, nI_add, pk_mul]) (by omega) (by decide) rfl ?_
        refine Rn.step (pc' := 103) rfl rfl ?_
        refine Rn.getf (pc' := 106) rfl rfl rfl rfl rfl ?_
        refine Rn.step (pc' := 107) rfl rfl ?_
        refine Rn.iconst (v := 3) (pc' := 108) rfl (by decide) rfl ?_
        refine Rn.iadd (pc' := 109) rfl rfl ?_
        refine Rn.sald (k := 10 + 6 * b + 3) (pc' := 110) rfl rfl (by simp only [nI_lit, nI_add, pk_mul]) (by omega) (by decide) rfl ?_
        refine Rn.iconst (v := 60) (pc' := 112) rfl (by decide) rfl ?_
        refine Rn.icmp_lt (pc1 := 127) (pc2 := 115) rfl rfl rfl (fun h112 => ?_) (fun h112 => ?_)
        · exact Rn.retv rfl (by
              have hcl : mCl (mCn s (v 23) much b) = (s (10 + 6 * b + 3) - 4) := by
                have hcn : mCn s (v 23) much b = (s (10 + 6 * b + 3) - 4) := by
                  unfold mCn
                  rw [if_pos h22]
                rw [hcn]
                unfold mCl
                rw [if_neg (Int32.not_lt.mpr h80), if_neg (Int32.not_lt.mpr h91)]
              rw [upd_s] at h112
              unfold mCh mCz
              rw [hcl, if_pos (Or.inl h112), if_pos (Or.inl h112), upd_id])
        · refine Rn.step (pc' := 116) rfl rfl ?_
          refine Rn.getf (pc' := 119) rfl rfl rfl rfl rfl ?_
          refine Rn.step (pc' := 120) rfl rfl ?_
          refine Rn.iconst (v := 4) (pc' := 121) rfl (by decide) rfl ?_
          refine Rn.iadd (pc' := 122) rfl rfl ?_
          refine Rn.sald (k := 10 + 6 * b + 4) (pc' := 123) rfl rfl (by simp only [nI_lit, nI_add, pk_mul]) (by omega) (by decide) rfl ?_
          refine Rn.iconst (v := 1) (pc' := 124) rfl (by decide) rfl ?_
          refine Rn.icmp_ne (pc1 := 128) (pc2 := 127) rfl rfl rfl (fun h124 => ?_) (fun h124 => ?_)
          · refine Rn.step (pc' := 129) rfl rfl ?_
            refine Rn.getf (pc' := 132) rfl rfl rfl rfl rfl ?_
            refine Rn.step (pc' := 133) rfl rfl ?_
            refine Rn.iconst (v := 4) (pc' := 134) rfl (by decide) rfl ?_
            refine Rn.iadd (pc' := 135) rfl rfl ?_
            refine Rn.iconst (v := 1) (pc' := 136) rfl (by decide) rfl ?_
            refine Rn.sast (k := 10 + 6 * b + 4) (pc' := 137) rfl rfl (by simp only [nI_lit, nI_add, pk_mul]) (by omega) (by decide) rfl ?_
            refine Rn.step (pc' := 138) rfl rfl ?_
            refine Rn.step (pc' := 139) rfl rfl ?_
            refine Rn.getf (pc' := 142) rfl rfl rfl rfl rfl ?_
            refine Rn.iconst (v := 1) (pc' := 143) rfl (by decide) rfl ?_
            refine Rn.iadd (pc' := 144) rfl rfl ?_
            refine Rn.mput (pc' := 147) rfl rfl rfl rfl (by decide) rfl ?_
            exact Rn.retv rfl (by
                have hcl : mCl (mCn s (v 23) much b) = (s (10 + 6 * b + 3) - 4) := by
                  have hcn : mCn s (v 23) much b = (s (10 + 6 * b + 3) - 4) := by
                    unfold mCn
                    rw [if_pos h22]
                  rw [hcn]
                  unfold mCl
                  rw [if_neg (Int32.not_lt.mpr h80), if_neg (Int32.not_lt.mpr h91)]
                rw [upd_s] at h112
                rw [upd_n _ _ (show 10 + 6 * b + 4 ≠ 10 + 6 * b + 3 by omega)] at h124
                unfold mCh mCz
                rw [hcl, if_neg (fun z => z.elim h112 h124), if_neg (fun z => z.elim h112 h124)])
          · exact Rn.retv rfl (by
                have hcl : mCl (mCn s (v 23) much b) = (s (10 + 6 * b + 3) - 4) := by
                  have hcn : mCn s (v 23) much b = (s (10 + 6 * b + 3) - 4) := by
                    unfold mCn
                    rw [if_pos h22]
                  rw [hcn]
                  unfold mCl
                  rw [if_neg (Int32.not_lt.mpr h80), if_neg (Int32.not_lt.mpr h91)]
                rw [upd_n _ _ (show 10 + 6 * b + 4 ≠ 10 + 6 * b + 3 by omega)] at h124
                unfold mCh mCz
                rw [hcl, if_pos (Or.inr h124), if_pos (Or.inr h124), upd_id])
      · refine Rn.iconst (v := 99) (pc' := 96) rfl (by decide) rfl ?_
        refine Rn.step (pc' := 101) rfl rfl ?_
        refine Rn.sast (k := 10 + 6 * b + 3) (pc' := 102) rfl rfl (by simp only [nI_lit, nI_add, pk_mul]) (by omega) (by decide) rfl ?_
        refine Rn.step (pc' := 103) rfl rfl ?_
        refine Rn.getf (pc' := 106) rfl rfl rfl rfl rfl ?_
        refine Rn.step (pc' := 107) rfl rfl ?_
        refine Rn.iconst (v := 3) (pc' := 108) rfl (by decide) rfl ?_
        refine Rn.iadd (pc' := 109) rfl rfl ?_
        refine Rn.sald (k := 10 + 6 * b + 3) (pc' := 110) rfl rfl (by simp only [nI_lit, nI_add, pk_mul]) (by omega) (by decide) rfl ?_
        refine Rn.iconst (v := 60) (pc' := 112) rfl (by decide) rfl ?_
        refine Rn.icmp_lt (pc1 := 127) (pc2 := 115) rfl rfl rfl (fun h112 => ?_) (fun h112 => ?_)
        · exact Rn.retv rfl (by
              have hcl : mCl (mCn s (v 23) much b) = 99 := by
                have hcn : mCn s (v 23) much b = (s (10 + 6 * b + 3) - 4) := by
                  unfold mCn
                  rw [if_pos h22]
                rw [hcn]
                unfold mCl
                rw [if_neg (Int32.not_lt.mpr h80), if_pos (Int32.not_le.mp h91)]
              rw [upd_s] at h112
              unfold mCh mCz
              rw [hcl, if_pos (Or.inl h112), if_pos (Or.inl h112), upd_id])
        · refine Rn.step (pc' := 116) rfl rfl ?_
          refine Rn.getf (pc' := 119) rfl rfl rfl rfl rfl ?_
          refine Rn.step (pc' := 120) rfl rfl ?_
          refine Rn.iconst (v := 4) (pc' := 121) rfl (by decide) rfl ?_
          refine Rn.iadd (pc' := 122) rfl rfl ?_
          refine Rn.sald (k := 10 + 6 * b + 4) (pc' := 123) rfl rfl (by simp only [nI_lit, nI_add, pk_mul]) (by omega) (by decide) rfl ?_
          refine Rn.iconst (v := 1) (pc' := 124) rfl (by decide) rfl ?_
          refine Rn.icmp_ne (pc1 := 128) (pc2 := 127) rfl rfl rfl (fun h124 => ?_) (fun h124 => ?_)
          · refine Rn.step (pc' := 129) rfl rfl ?_
            refine Rn.getf (pc' := 132) rfl rfl rfl rfl rfl ?_
            refine Rn.step (pc' := 133) rfl rfl ?_
            refine Rn.iconst (v := 4) (pc' := 134) rfl (by decide) rfl ?_
            refine Rn.iadd (pc' := 135) rfl rfl ?_
            refine Rn.iconst (v := 1) (pc' := 136) rfl (by decide) rfl ?_
            refine Rn.sast (k := 10 + 6 * b + 4) (pc' := 137) rfl rfl (by simp only [nI_lit, nI_add, pk_mul]) (by omega) (by decide) rfl ?_
            refine Rn.step (pc' := 138) rfl rfl ?_
            refine Rn.step (pc' := 139) rfl rfl ?_
            refine Rn.getf (pc' := 142) rfl rfl rfl rfl rfl ?_
            refine Rn.iconst (v := 1) (pc' := 143) rfl (by decide) rfl ?_
            refine Rn.iadd (pc' := 144) rfl rfl ?_
            refine Rn.mput (pc' := 147) rfl rfl rfl rfl (by decide) rfl ?_
            exact Rn.retv rfl (by
                have hcl : mCl (mCn s (v 23) much b) = 99 := by
                  have hcn : mCn s (v 23) much b = (s (10 + 6 * b + 3) - 4) := by
                    unfold mCn
                    rw [if_pos h22]
                  rw [hcn]
                  unfold mCl
                  rw [if_neg (Int32.not_lt.mpr h80), if_pos (Int32.not_le.mp h91)]
                rw [upd_s] at h112
                rw [upd_n _ _ (show 10 + 6 * b + 4 ≠ 10 + 6 * b + 3 by omega)] at h124
                unfold mCh mCz
                rw [hcl, if_neg (fun z => z.elim h112 h124), if_neg (fun z => z.elim h112 h124)])
          · exact Rn.retv rfl (by
                have hcl : mCl (mCn s (v 23) much b) = 99 := by
                  have hcn : mCn s (v 23) much b = (s (10 + 6 * b + 3) - 4) := by
                    unfold mCn
                    rw [if_pos h22]
                  rw [hcn]
                  unfold mCl
                  rw [if_neg (Int32.not_lt.mpr h80), if_pos (Int32.not_le.mp h91)]
                rw [upd_n _ _ (show 10 + 6 * b + 4 ≠ 10 + 6 * b + 3 by omega)] at h124
                unfold mCh mCz
                rw [hcl, if_pos (Or.inr h124), if_pos (Or.inr h124), upd_id])
    · refine Rn.iconst (v := 0) (pc' := 84) rfl (by decide) rfl ?_
      refine Rn.step (pc' := 101) rfl rfl ?_
      refine Rn.sast (k := 10 + 6 * b + 3) (pc' := 102) rfl rfl (by simp only [nI_lit, nI_add, pk_mul]) (by omega) (by decide) rfl ?_
      refine Rn.step (pc' := 103) rfl rfl ?_
      refine Rn.getf (pc' := 106) rfl rfl rfl rfl rfl ?_
      refine Rn.step (pc' := 107) rfl rfl ?_
      refine Rn.iconst (v := 3) (pc' := 108) rfl (by decide) rfl ?_
      refine Rn.iadd (pc' := 109) rfl rfl ?_
      refine Rn.sald (k := 10 + 6 * b + 3) (pc' := 110) rfl rfl (by simp only [nI_lit, nI_add, pk_mul]) (by omega) (by decide) rfl ?_
      refine Rn.iconst (v := 60) (pc' := 112) rfl (by decide) rfl ?_
      refine Rn.icmp_lt (pc1 := 127) (pc2 := 115) rfl rfl rfl (fun h112 => ?_) (fun h112 => ?_)
      · exact Rn.retv rfl (by
            have hcl : mCl (mCn s (v 23) much b) = 0 := by
              have hcn : mCn s (v 23) much b = (s (10 + 6 * b + 3) - 4) := by
                unfold mCn
                rw [if_pos h22]
              rw [hcn]
              unfold mCl
              rw [if_pos (Int32.not_le.mp h80)]
            rw [upd_s] at h112
            unfold mCh mCz
            rw [hcl, if_pos (Or.inl h112), if_pos (Or.inl h112), upd_id])
      · refine Rn.step (pc' := 116) rfl rfl ?_
        refine Rn.getf (pc' := 119) rfl rfl rfl rfl rfl ?_
        refine Rn.step (pc' := 120) rfl rfl ?_
        refine Rn.iconst (v := 4) (pc' := 121) rfl (by decide) rfl ?_
        refine Rn.iadd (pc' := 122) rfl rfl ?_
        refine Rn.sald (k := 10 + 6 * b + 4) (pc' := 123) rfl rfl (by simp only [nI_lit, nI_add, pk_mul]) (by omega) (by decide) rfl ?_
        refine Rn.iconst (v := 1) (pc' := 124) rfl (by decide) rfl ?_
        refine Rn.icmp_ne (pc1 := 128) (pc2 := 127) rfl rfl rfl (fun h124 => ?_) (fun h124 => ?_)
        · refine Rn.step (pc' := 129) rfl rfl ?_
          refine Rn.getf (pc' := 132) rfl rfl rfl rfl rfl ?_
          refine Rn.step (pc' := 133) rfl rfl ?_
          refine Rn.iconst (v := 4) (pc' := 134) rfl (by decide) rfl ?_
          refine Rn.iadd (pc' := 135) rfl rfl ?_
          refine Rn.iconst (v := 1) (pc' := 136) rfl (by decide) rfl ?_
          refine Rn.sast (k := 10 + 6 * b + 4) (pc' := 137) rfl rfl (by simp only [nI_lit, nI_add, pk_mul]) (by omega) (by decide) rfl ?_
          refine Rn.step (pc' := 138) rfl rfl ?_
          refine Rn.step (pc' := 139) rfl rfl ?_
          refine Rn.getf (pc' := 142) rfl rfl rfl rfl rfl ?_
          refine Rn.iconst (v := 1) (pc' := 143) rfl (by decide) rfl ?_
          refine Rn.iadd (pc' := 144) rfl rfl ?_
          refine Rn.mput (pc' := 147) rfl rfl rfl rfl (by decide) rfl ?_
          exact Rn.retv rfl (by
              have hcl : mCl (mCn s (v 23) much b) = 0 := by
                have hcn : mCn s (v 23) much b = (s (10 + 6 * b + 3) - 4) := by
                  unfold mCn
                  rw [if_pos h22]
                rw [hcn]
                unfold mCl
                rw [if_pos (Int32.not_le.mp h80)]
              rw [upd_s] at h112
              rw [upd_n _ _ (show 10 + 6 * b + 4 ≠ 10 + 6 * b + 3 by omega)] at h124
              unfold mCh mCz
              rw [hcl, if_neg (fun z => z.elim h112 h124), if_neg (fun z => z.elim h112 h124)])
        · exact Rn.retv rfl (by
              have hcl : mCl (mCn s (v 23) much b) = 0 := by
                have hcn : mCn s (v 23) much b = (s (10 + 6 * b + 3) - 4) := by
                  unfold mCn
                  rw [if_pos h22]
                rw [hcn]
                unfold mCl
                rw [if_pos (Int32.not_le.mp h80)]
              rw [upd_n _ _ (show 10 + 6 * b + 4 ≠ 10 + 6 * b + 3 by omega)] at h124
              unfold mCh mCz
              rw [hcl, if_pos (Or.inr h124), if_pos (Or.inr h124), upd_id])
theorem c_M_goesHome {d : Nat} (b : Nat) (hb : b < 6) : Cl d j_M_goesHome [.ref 50, .int (nI b)] (MS m0 v dx A LA s) (Pv (MS m0 v dx A LA (upd (upd (upd s (10 + 6 * b) (s (10 + 6 * b + 1))) (10 + 6 * b + 3) 0) (10 + 6 * b + 4) 0))) := by
  show Rn d j_M_goesHome 0 _ _ _ _
  refine Rn.iconst (v := 10) (pc' := 2) rfl (by decide) rfl ?_
  refine Rn.iconst (v := 6) (pc' := 4) rfl (by decide) rfl ?_
  refine Rn.step (pc' := 5) rfl rfl ?_
  refine Rn.imul (pc' := 6) rfl rfl ?_
  refine Rn.iadd (pc' := 7) rfl rfl ?_
  refine Rn.step (pc' := 8) rfl rfl ?_
  refine Rn.step (pc' := 9) rfl rfl ?_
  refine Rn.getf (pc' := 12) rfl rfl rfl rfl rfl ?_
  refine Rn.step (pc' := 13) rfl rfl ?_
  refine Rn.step (pc' := 14) rfl rfl ?_
  refine Rn.getf (pc' := 17) rfl rfl rfl rfl rfl ?_
  refine Rn.step (pc' := 18) rfl rfl ?_
  refine Rn.iconst (v := 1) (pc' := 19) rfl (by decide) rfl ?_
  refine Rn.iadd (pc' := 20) rfl rfl ?_
  refine Rn.sald (k := 10 + 6 * b + 1) (pc' := 21) rfl rfl (by simp only [nI_lit, nI_add, pk_mul]) (by omega) (by decide) rfl ?_
  refine Rn.sast (k := 10 + 6 * b) (pc' := 22) rfl rfl (by simp only [nI_lit, nI_add, pk_mul]) (by omega) (by decide) rfl ?_
  refine Rn.step (pc' := 23) rfl rfl ?_
  refine Rn.getf (pc' := 26) rfl rfl rfl rfl rfl ?_
  refine Rn.step (pc' := 27) rfl rfl ?_
  refine Rn.iconst (v := 3) (pc' := 28) rfl (by decide) rfl ?_
  refine Rn.iadd (pc' := 29) rfl rfl ?_
  refine Rn.iconst (v := 0) (pc' := 30) rfl (by decide) rfl ?_
  refine Rn.sast (k := 10 + 6 * b + 3) (pc' := 31) rfl rfl (by simp only [nI_lit, nI_add, pk_mul]) (by omega) (by decide) rfl ?_
  refine Rn.step (pc' := 32) rfl rfl ?_
  refine Rn.getf (pc' := 35) rfl rfl rfl rfl rfl ?_
  refine Rn.step (pc' := 36) rfl rfl ?_
  refine Rn.iconst (v := 4) (pc' := 37) rfl (by decide) rfl ?_
  refine Rn.iadd (pc' := 38) rfl rfl ?_
  refine Rn.iconst (v := 0) (pc' := 39) rfl (by decide) rfl ?_
  refine Rn.sast (k := 10 + 6 * b + 4) (pc' := 40) rfl rfl (by simp only [nI_lit, nI_add, pk_mul]) (by omega) (by decide) rfl ?_
  exact Rn.retv rfl (rfl)
end MH
