/-! THE MODEL: lane(). -/
section NN2
variable {m0 : xM} {v : Nat → Int32} {dx : Int64} {A : Nat → Nat → Int32} {LA : Nat → Nat → Int64} {s : Nat → Int32}
section W2
variable {T : Nat → Int32} {n p : Nat} {q : Nat → Int32}
/-- the first cells, laid below k -/
def lyA (f : Nat → Int32) (k : Nat) : Nat → Int32 := fun j => if j < k then (if 7 < j then -1 else 0) else f j
def lyB (f : Nat → Int32) (k : Nat) : Nat → Int32 := fun j => if 100 ≤ j ∧ j < 100 + k then 0 else f j
def lyS (f g : Nat → Int32) (k : Nat) : Nat → Int32 := fun j => if j < k then (if j < 110 then f j else 0) else g j
theorem lyA_s (f : Nat → Int32) (k : Nat) : upd (lyA f k) k (if 7 < k then -1 else 0) = lyA f (k + 1) := by
  funext j
  unfold lyA
  by_cases h : j = k
  · subst h
    rw [upS, if_pos (show j < j + 1 by omega)]
  · rw [upN _ _ h]
    by_cases h2 : j < k
    · rw [if_pos h2, if_pos (show j < k + 1 by omega)]
    · rw [if_neg h2, if_neg (show ¬ j < k + 1 by omega)]
theorem lyB_s (f : Nat → Int32) (k : Nat) : upd (lyB f k) (100 + k) 0 = lyB f (k + 1) := by
  funext j
  unfold lyB
  by_cases h : j = 100 + k
  · subst h
    rw [upS, if_pos (by omega)]
  · rw [upN _ _ h]
    by_cases h2 : 100 ≤ j ∧ j < 100 + k
    · rw [if_pos h2, if_pos (by omega)]
    · rw [if_neg h2, if_neg (by omega)]
theorem lyS_s (f g : Nat → Int32) (k : Nat) : upd (lyS f g k) k (if k < 110 then f k else 0) = lyS f g (k + 1) := by
  funext j
  unfold lyS
  by_cases h : j = k
  · subst h
    rw [upS, if_pos (show j < j + 1 by omega)]
  · rw [upN _ _ h]
    by_cases h2 : j < k
    · rw [if_pos h2, if_pos (show j < k + 1 by omega)]
    · rw [if_neg h2, if_neg (show ¬ j < k + 1 by omega)]
theorem ly_ini (f : Nat → Int32) : iniQ (lyB (lyA f 10) 10) := by
  refine ⟨fun k hk => ?_, ?_, ?_, fun x hx => ?_⟩
  · show (if 100 ≤ k ∧ k < 100 + 10 then 0 else if k < 10 then (if 7 < k then -1 else 0) else f k) = 0
    rw [if_neg (by omega), if_pos (by omega), if_neg (by omega)]
  · rfl
  · rfl
  · exact if_pos (by omega)
theorem l_Y_a {d : Nat} {f : Nat → Int32} {Q : Option Value → xM → Prop} (k : Nat) (hk : k ≤ 10) (kk : Rn d j_M_lane 37 [.ref 50, .int (nI 10)] [] (MM m0 v dx (va_up A 56 (lyA f 10)) LA) Q) : Rn d j_M_lane 8 [.ref 50, .int (nI k)] [] (MM m0 v dx (va_up A 56 (lyA f k)) LA) Q := by
  refine Rn.step (pc' := 9) rfl rfl ?_
  refine Rn.iconst (v := 10) (pc' := 11) rfl (by decide) rfl ?_
  refine Rn.icmp_ge (pc1 := 37) (pc2 := 14) rfl rfl rfl (fun h11 => ?_) (fun h11 => ?_)
  · have hk2 : k = 10 := by
      have := (nI_leI (a := 10) (b := k) (by omega) (by omega)).mp h11
      omega
    subst hk2
    exact kk
  · have hk2 : k < 10 := by
      have := mt (nI_leI (a := 10) (b := k) (by omega) (by omega)).mpr h11
      omega
    refine Rn.step (pc' := 15) rfl rfl ?_
    refine Rn.getf (pc' := 18) rfl rfl rfl rfl rfl ?_
    refine Rn.step (pc' := 19) rfl rfl ?_
    refine Rn.step (pc' := 20) rfl rfl ?_
    refine Rn.iconst (v := 7) (pc' := 22) rfl (by decide) rfl ?_
    refine Rn.icmp_le (pc1 := 29) (pc2 := 25) rfl rfl rfl (fun h22 => ?_) (fun h22 => ?_)
    · refine Rn.iconst (v := 0) (pc' := 30) rfl (by decide) rfl ?_
      refine Rn.mast (k := k) (pc' := 31) rfl rfl (rfl) (by omega) (by decide) rfl ?_
      refine Rn.step (pc' := 34) rfl rfl ?_
      refine Rn.step (pc' := 8) rfl rfl ?_
      rw [show nI k + Int32.ofInt 1 = nI (k + 1) from nI_add k 1, va_up_self, up_up]
      have := lyA_s f k
      rw [if_neg (show ¬ 7 < k by have := (nI_leI (a := k) (b := 7) (by omega) (by omega)).mp h22; omega)] at this
      rw [this]
      exact l_Y_a (k + 1) (by omega) kk
    · refine Rn.iconst (v := (-1)) (pc' := 26) rfl (by decide) rfl ?_
      refine Rn.step (pc' := 30) rfl rfl ?_
      refine Rn.mast (k := k) (pc' := 31) rfl rfl (rfl) (by omega) (by decide) rfl ?_
      refine Rn.step (pc' := 34) rfl rfl ?_
      refine Rn.step (pc' := 8) rfl rfl ?_
      rw [show nI k + Int32.ofInt 1 = nI (k + 1) from nI_add k 1, va_up_self, up_up]
      have := lyA_s f k
      rw [if_pos (show 7 < k by have := mt (nI_leI (a := k) (b := 7) (by omega) (by omega)).mpr h22; omega)] at this
      rw [this]
      exact l_Y_a (k + 1) (by omega) kk
termination_by 10 - k
theorem l_Y_b {d : Nat} {f : Nat → Int32} {Q : Option Value → xM → Prop} (k : Nat) (hk : k ≤ 10) (kk : Rn d j_M_lane 61 [.ref 50, .int (nI 10)] [] (MM m0 v dx (va_up A 56 (lyB f 10)) LA) Q) : Rn d j_M_lane 39 [.ref 50, .int (nI k)] [] (MM m0 v dx (va_up A 56 (lyB f k)) LA) Q := by
  refine Rn.step (pc' := 40) rfl rfl ?_
  refine Rn.iconst (v := 10) (pc' := 42) rfl (by decide) rfl ?_
  refine Rn.icmp_ge (pc1 := 61) (pc2 := 45) rfl rfl rfl (fun h42 => ?_) (fun h42 => ?_)
  · have hk2 : k = 10 := by
      have := (nI_leI (a := 10) (b := k) (by omega) (by omega)).mp h42
      omega
    subst hk2
    exact kk
  · have hk2 : k < 10 := by
      have := mt (nI_leI (a := 10) (b := k) (by omega) (by omega)).mpr h42
      omega
    refine Rn.step (pc' := 46) rfl rfl ?_
    refine Rn.getf (pc' := 49) rfl rfl rfl rfl rfl ?_
    refine Rn.iconst (v := 100) (pc' := 51) rfl (by decide) rfl ?_
    refine Rn.step (pc' := 52) rfl rfl ?_
    refine Rn.iadd (pc' := 53) rfl rfl ?_
    refine Rn.iconst (v := 0) (pc' := 54) rfl (by decide) rfl ?_
    refine Rn.mast (k := 100 + k) (pc' := 55) rfl rfl (by rw [show (100 : Int32) = nI 100 from rfl, nI_add]) (by omega) (by decide) rfl ?_
    refine Rn.step (pc' := 58) rfl rfl ?_
    refine Rn.step (pc' := 39) rfl rfl ?_
    rw [show nI k + Int32.ofInt 1 = nI (k + 1) from nI_add k 1, va_up_self, up_up, lyB_s]
    exact l_Y_b (k + 1) (by omega) kk
termination_by 10 - k
theorem l_Y_s {d : Nat} {g : Nat → Int32} {Q : Option Value → xM → Prop} (k : Nat) (hk : k ≤ 151) (kk : Rn d j_M_lane 113 [.ref 50, .int (nI 151)] [] (MS m0 v dx A LA (lyS (A 56) g 151)) Q) : Rn d j_M_lane 78 [.ref 50, .int (nI k)] [] (MS m0 v dx A LA (lyS (A 56) g k)) Q := by
  refine Rn.step (pc' := 79) rfl rfl ?_
  refine Rn.iconst (v := 151) (pc' := 82) rfl (by decide) rfl ?_
  refine Rn.icmp_ge (pc1 := 113) (pc2 := 85) rfl rfl rfl (fun h82 => ?_) (fun h82 => ?_)
  · have hk2 : k = 151 := by
      have := (nI_leI (a := 151) (b := k) (by omega) (by omega)).mp h82
      omega
    subst hk2
    exact kk
  · have hk2 : k < 151 := by
      have := mt (nI_leI (a := 151) (b := k) (by omega) (by omega)).mpr h82
      omega
    refine Rn.step (pc' := 86) rfl rfl ?_
    refine Rn.getf (pc' := 89) rfl rfl rfl rfl rfl ?_
    refine Rn.step (pc' := 90) rfl rfl ?_
    refine Rn.step (pc' := 91) rfl rfl ?_
    refine Rn.iconst (v := 110) (pc' := 93) rfl (by decide) rfl ?_
    refine Rn.icmp_ge (pc1 := 105) (pc2 := 96) rfl rfl rfl (fun h93 => ?_) (fun h93 => ?_)
    · have hk3 : ¬ k < 110 := by
        have := (nI_leI (a := 110) (b := k) (by omega) (by omega)).mp h93
        omega
      refine Rn.iconst (v := 0) (pc' := 106) rfl (by decide) rfl ?_
      refine Rn.sast (k := k) (pc' := 107) rfl rfl (rfl) (by omega) (by decide) rfl ?_
      refine Rn.step (pc' := 110) rfl rfl ?_
      refine Rn.step (pc' := 78) rfl rfl ?_
      rw [show nI k + Int32.ofInt 1 = nI (k + 1) from nI_add k 1]
      have := lyS_s (A 56) g k
      rw [if_neg hk3] at this
      rw [this]
      exact l_Y_s (k + 1) (by omega) kk
    · have hk3 : k < 110 := by
        have := mt (nI_leI (a := 110) (b := k) (by omega) (by omega)).mpr h93
        omega
      refine Rn.step (pc' := 97) rfl rfl ?_
      refine Rn.getf (pc' := 100) rfl rfl rfl rfl rfl ?_
      refine Rn.step (pc' := 101) rfl rfl ?_
      refine Rn.mald (k := k) (pc' := 102) rfl rfl (rfl) (by omega) (by decide) rfl ?_
      refine Rn.step (pc' := 106) rfl rfl ?_
      refine Rn.sast (k := k) (pc' := 107) rfl rfl (rfl) (by omega) (by decide) rfl ?_
      refine Rn.step (pc' := 110) rfl rfl ?_
      refine Rn.step (pc' := 78) rfl rfl ?_
      rw [show nI k + Int32.ofInt 1 = nI (k + 1) from nI_add k 1]
      have := lyS_s (A 56) g k
      rw [if_pos hk3] at this
      rw [show va_up A 60 (lyS (A 56) g k) 56 k = A 56 k from rfl]
      rw [this]
      exact l_Y_s (k + 1) (by omega) kk
termination_by 151 - k
/-- what is said of a lane that was read -/
def laS (q g : Nat → Int32) : Nat → Int32 :=
  let f := lyS q g 151
  let f := if f 8 < 0 then upd f 8 30 else f
  let f := if f 9 < 0 then upd f 9 0 else f
  upd (upd (upd (upd (upd (upd f 46 (-1)) 47 (f 9)) 48 0) 49 (-1)) 50 (f 9)) 51 0
/-- what lane() of the model answers and leaves -/
def gLm (m0 : xM) (v : Nat → Int32) (dx : Int64) (A : Nat → Nat → Int32) (LA : Nat → Nat → Int64) (s : Nat → Int32) (o : Option Value) (m2 : xM) : gX → Prop
  | .inl e => o = some (.int (-2 - nI e)) ∧ ∃ v1 A1, m2 = MS m0 v1 dx A1 LA s ∧ xFM (upd v 11 6) A v1 A1 ∧ v1 1 = 0
  | .inr z => o = some (.int (z.2 2)) ∧ ∃ v1 A1, m2 = MS m0 (upd v1 27 0) dx A1 LA (laS z.2 s) ∧ xFM (upd v 11 6) A v1 A1 ∧ v1 1 = 0
theorem l_Y_t {d : Nat} {g : Nat → Int32} : Rn d j_M_lane 152 [.ref 50, .int 0] [] (MS m0 v dx A LA g) (fun o m2 => o = some (.int (g 2)) ∧ m2 = MS m0 (upd v 27 0) dx A LA (upd (upd (upd (upd (upd (upd g 46 (-1)) 47 (g 9)) 48 0) 49 (-1)) 50 (g 9)) 51 0)) := by
  refine Rn.step (pc' := 153) rfl rfl ?_
  refine Rn.iconst (v := 2) (pc' := 154) rfl (by decide) rfl ?_
  refine Rn.icmp_ge (pc1 := 209) (pc2 := 157) rfl rfl rfl (fun h154 => absurd h154 (fun z => absurd z (by decide))) (fun h154 => ?_)
  refine Rn.step (pc' := 158) rfl rfl ?_
  refine Rn.getf (pc' := 161) rfl rfl rfl rfl rfl ?_
  refine Rn.iconst (v := 46) (pc' := 163) rfl (by decide) rfl ?_
  refine Rn.iconst (v := 3) (pc' := 164) rfl (by decide) rfl ?_
  refine Rn.step (pc' := 165) rfl rfl ?_
  refine Rn.imul (pc' := 166) rfl rfl ?_
  refine Rn.iadd (pc' := 167) rfl rfl ?_
  refine Rn.iconst (v := (-1)) (pc' := 168) rfl (by decide) rfl ?_
  refine Rn.sast (k := 46) (pc' := 169) rfl rfl (rfl) (by omega) (by decide) rfl ?_
  refine Rn.step (pc' := 170) rfl rfl ?_
  refine Rn.getf (pc' := 173) rfl rfl rfl rfl rfl ?_
  refine Rn.iconst (v := 46) (pc' := 175) rfl (by decide) rfl ?_
  refine Rn.iconst (v := 3) (pc' := 176) rfl (by decide) rfl ?_
  refine Rn.step (pc' := 177) rfl rfl ?_
  refine Rn.imul (pc' := 178) rfl rfl ?_
  refine Rn.iadd (pc' := 179) rfl rfl ?_
  refine Rn.iconst (v := 1) (pc' := 180) rfl (by decide) rfl ?_
  refine Rn.iadd (pc' := 181) rfl rfl ?_
  refine Rn.step (pc' := 182) rfl rfl ?_
  refine Rn.getf (pc' := 185) rfl rfl rfl rfl rfl ?_
  refine Rn.iconst (v := 9) (pc' := 187) rfl (by decide) rfl ?_
  refine Rn.sald (k := 9) (pc' := 188) rfl rfl (rfl) (by omega) (by decide) rfl ?_
  refine Rn.sast (k := 47) (pc' := 189) rfl rfl (rfl) (by omega) (by decide) rfl ?_
  refine Rn.step (pc' := 190) rfl rfl ?_
  refine Rn.getf (pc' := 193) rfl rfl rfl rfl rfl ?_
  refine Rn.iconst (v := 46) (pc' := 195) rfl (by decide) rfl ?_
  refine Rn.iconst (v := 3) (pc' := 196) rfl (by decide) rfl ?_
  refine Rn.step (pc' := 197) rfl rfl ?_
  refine Rn.imul (pc' := 198) rfl rfl ?_
  refine Rn.iadd (pc' := 199) rfl rfl ?_
  refine Rn.iconst (v := 2) (pc' := 200) rfl (by decide) rfl ?_
  refine Rn.iadd (pc' := 201) rfl rfl ?_
  refine Rn.iconst (v := 0) (pc' := 202) rfl (by decide) rfl ?_
  refine Rn.sast (k := 48) (pc' := 203) rfl rfl (rfl) (by omega) (by decide) rfl ?_
  refine Rn.step (pc' := 206) rfl rfl ?_
  refine Rn.step (pc' := 152) rfl rfl ?_
  refine Rn.step (pc' := 153) rfl rfl ?_
  refine Rn.iconst (v := 2) (pc' := 154) rfl (by decide) rfl ?_
  refine Rn.icmp_ge (pc1 := 209) (pc2 := 157) rfl rfl rfl (fun h154 => absurd h154 (fun z => absurd z (by decide))) (fun h154 => ?_)
  refine Rn.step (pc' := 158) rfl rfl ?_
  refine Rn.getf (pc' := 161) rfl rfl rfl rfl rfl ?_
  refine Rn.iconst (v := 46) (pc' := 163) rfl (by decide) rfl ?_
  refine Rn.iconst (v := 3) (pc' := 164) rfl (by decide) rfl ?_
  refine Rn.step (pc' := 165) rfl rfl ?_
  refine Rn.imul (pc' := 166) rfl rfl ?_
  refine Rn.iadd (pc' := 167) rfl rfl ?_
  refine Rn.iconst (v := (-1)) (pc' := 168) rfl (by decide) rfl ?_
  refine Rn.sast (k := 49) (pc' := 169) rfl rfl (rfl) (by omega) (by decide) rfl ?_
  refine Rn.step (pc' := 170) rfl rfl ?_
  refine Rn.getf (pc' := 173) rfl rfl rfl rfl rfl ?_
  refine Rn.iconst (v := 46) (pc' := 175) rfl (by decide) rfl ?_
  refine Rn.iconst (v := 3) (pc' := 176) rfl (by decide) rfl ?_
  refine Rn.step (pc' := 177) rfl rfl ?_
  refine Rn.imul (pc' := 178) rfl rfl ?_
  refine Rn.iadd (pc' := 179) rfl rfl ?_
  refine Rn.iconst (v := 1) (pc' := 180) rfl (by decide) rfl ?_
  refine Rn.iadd (pc' := 181) rfl rfl ?_
  refine Rn.step (pc' := 182) rfl rfl ?_
  refine Rn.getf (pc' := 185) rfl rfl rfl rfl rfl ?_
  refine Rn.iconst (v := 9) (pc' := 187) rfl (by decide) rfl ?_
  refine Rn.sald (k := 9) (pc' := 188) rfl rfl (rfl) (by omega) (by decide) rfl ?_
  refine Rn.sast (k := 50) (pc' := 189) rfl rfl (rfl) (by omega) (by decide) rfl ?_
  refine Rn.step (pc' := 190) rfl rfl ?_
  refine Rn.getf (pc' := 193) rfl rfl rfl rfl rfl ?_
  refine Rn.iconst (v := 46) (pc' := 195) rfl (by decide) rfl ?_
  refine Rn.iconst (v := 3) (pc' := 196) rfl (by decide) rfl ?_
  refine Rn.step (pc' := 197) rfl rfl ?_
  refine Rn.imul (pc' := 198) rfl rfl ?_
  refine Rn.iadd (pc' := 199) rfl rfl ?_
  refine Rn.iconst (v := 2) (pc' := 200) rfl (by decide) rfl ?_
  refine Rn.iadd (pc' := 201) rfl rfl ?_
  refine Rn.iconst (v := 0) (pc' := 202) rfl (by decide) rfl ?_
  refine Rn.sast (k := 51) (pc' := 203) rfl rfl (rfl) (by omega) (by decide) rfl ?_
  refine Rn.step (pc' := 206) rfl rfl ?_
  refine Rn.step (pc' := 152) rfl rfl ?_
  refine Rn.step (pc' := 153) rfl rfl ?_
  refine Rn.iconst (v := 2) (pc' := 154) rfl (by decide) rfl ?_
  refine Rn.icmp_ge (pc1 := 209) (pc2 := 157) rfl rfl rfl (fun h154 => ?_) (fun h154 => absurd (by decide) h154)
  refine Rn.step (pc' := 210) rfl rfl ?_
  refine Rn.iconst (v := 0) (pc' := 211) rfl (by decide) rfl ?_
  refine Rn.mput (pc' := 214) rfl rfl rfl rfl (by decide) rfl ?_
  refine Rn.step (pc' := 215) rfl rfl ?_
  refine Rn.getf (pc' := 218) rfl rfl rfl rfl rfl ?_
  refine Rn.iconst (v := 2) (pc' := 219) rfl (by decide) rfl ?_
  refine Rn.sald (k := 2) (pc' := 220) rfl rfl (rfl) (by omega) (by decide) rfl ?_
  exact Rn.iret rfl (rfl) ⟨rfl, rfl⟩
def laF (g : Nat → Int32) : Nat → Int32 :=
  let f := if g 8 < 0 then upd g 8 30 else g
  let f := if f 9 < 0 then upd f 9 0 else f
  upd (upd (upd (upd (upd (upd f 46 (-1)) 47 (f 9)) 48 0) 49 (-1)) 50 (f 9)) 51 0
theorem l_Y_113 {d : Nat} {x : Int32} {g : Nat → Int32} : Rn d j_M_lane 113 [.ref 50, .int x] [] (MS m0 v dx A LA g) (fun o m2 => o = some (.int (g 2)) ∧ m2 = MS m0 (upd v 27 0) dx A LA (laF g)) := by
  refine Rn.step (pc' := 114) rfl rfl ?_
  refine Rn.getf (pc' := 117) rfl rfl rfl rfl rfl ?_
  refine Rn.iconst (v := 8) (pc' := 119) rfl (by decide) rfl ?_
  refine Rn.sald (k := 8) (pc' := 120) rfl rfl (rfl) (by omega) (by decide) rfl ?_
  refine Rn.ifc_ge (pc1 := 132) (pc2 := 123) rfl rfl rfl (fun h120 => ?_) (fun h120 => ?_)
  · have e8 : (if g 8 < 0 then upd g 8 30 else g) = g := if_neg (Int32.not_lt.mpr h120)
    refine Rn.step (pc' := 133) rfl rfl ?_
    refine Rn.getf (pc' := 136) rfl rfl rfl rfl rfl ?_
    refine Rn.iconst (v := 9) (pc' := 138) rfl (by decide) rfl ?_
    refine Rn.sald (k := 9) (pc' := 139) rfl rfl (rfl) (by omega) (by decide) rfl ?_
    refine Rn.ifc_ge (pc1 := 150) (pc2 := 142) rfl rfl rfl (fun h139 => ?_) (fun h139 => ?_)
    · refine Rn.iconst (v := 0) (pc' := 151) rfl (by decide) rfl ?_
      refine Rn.step (pc' := 152) rfl rfl ?_
      have e9 : (if (g) 9 < 0 then upd (g) 9 0 else (g)) = g := if_neg (Int32.not_lt.mpr h139)
      refine Rn.conseq l_Y_t ?_
      rintro o m2 ⟨rfl, rfl⟩
      refine ⟨rfl, ?_⟩
      unfold laF
      simp only [e8, e9]
    · refine Rn.step (pc' := 143) rfl rfl ?_
      refine Rn.getf (pc' := 146) rfl rfl rfl rfl rfl ?_
      refine Rn.iconst (v := 9) (pc' := 148) rfl (by decide) rfl ?_
      refine Rn.iconst (v := 0) (pc' := 149) rfl (by decide) rfl ?_
      refine Rn.sast (k := 9) (pc' := 150) rfl rfl (rfl) (by omega) (by decide) rfl ?_
      refine Rn.iconst (v := 0) (pc' := 151) rfl (by decide) rfl ?_
      refine Rn.step (pc' := 152) rfl rfl ?_
      have e9 : (if (g) 9 < 0 then upd (g) 9 0 else (g)) = upd (g) 9 0 := if_pos (Int32.not_le.mp h139)
      refine Rn.conseq l_Y_t ?_
      rintro o m2 ⟨rfl, rfl⟩
      refine ⟨rfl, ?_⟩
      unfold laF
      simp only [e8, e9]
  · refine Rn.step (pc' := 124) rfl rfl ?_
    refine Rn.getf (pc' := 127) rfl rfl rfl rfl rfl ?_
    refine Rn.iconst (v := 8) (pc' := 129) rfl (by decide) rfl ?_
    refine Rn.iconst (v := 30) (pc' := 131) rfl (by decide) rfl ?_
    refine Rn.sast (k := 8) (pc' := 132) rfl rfl (rfl) (by omega) (by decide) rfl ?_
    have e8 : (if g 8 < 0 then upd g 8 30 else g) = upd g 8 30 := if_pos (Int32.not_le.mp h120)
    refine Rn.step (pc' := 133) rfl rfl ?_
    refine Rn.getf (pc' := 136) rfl rfl rfl rfl rfl ?_
    refine Rn.iconst (v := 9) (pc' := 138) rfl (by decide) rfl ?_
    refine Rn.sald (k := 9) (pc' := 139) rfl rfl (rfl) (by omega) (by decide) rfl ?_
    refine Rn.ifc_ge (pc1 := 150) (pc2 := 142) rfl rfl rfl (fun h139 => ?_) (fun h139 => ?_)
    · refine Rn.iconst (v := 0) (pc' := 151) rfl (by decide) rfl ?_
      refine Rn.step (pc' := 152) rfl rfl ?_
      have e9 : (if (upd g 8 30) 9 < 0 then upd (upd g 8 30) 9 0 else (upd g 8 30)) = upd g 8 30 := if_neg (Int32.not_lt.mpr h139)
      refine Rn.conseq l_Y_t ?_
      rintro o m2 ⟨rfl, rfl⟩
      refine ⟨rfl, ?_⟩
      unfold laF
      simp only [e8, e9]
    · refine Rn.step (pc' := 143) rfl rfl ?_
      refine Rn.getf (pc' := 146) rfl rfl rfl rfl rfl ?_
      refine Rn.iconst (v := 9) (pc' := 148) rfl (by decide) rfl ?_
      refine Rn.iconst (v := 0) (pc' := 149) rfl (by decide) rfl ?_
      refine Rn.sast (k := 9) (pc' := 150) rfl rfl (rfl) (by omega) (by decide) rfl ?_
      refine Rn.iconst (v := 0) (pc' := 151) rfl (by decide) rfl ?_
      refine Rn.step (pc' := 152) rfl rfl ?_
      have e9 : (if (upd g 8 30) 9 < 0 then upd (upd g 8 30) 9 0 else (upd g 8 30)) = upd (upd g 8 30) 9 0 := if_pos (Int32.not_le.mp h139)
      refine Rn.conseq l_Y_t ?_
      rintro o m2 ⟨rfl, rfl⟩
      refine ⟨rfl, ?_⟩
      unfold laF
      simp only [e8, e9]
theorem x_lane {d : Nat} (hd : 7 ≤ d) (h51 : A 51 = T) (h1 : v 1 = nI n) (h4 : n ≤ 400) (hT : ∀ i, -128 ≤ T i ∧ T i ≤ 127) : Cl d j_M_lane [.ref 50] (MS m0 v dx A LA s) (fun o m2 => gLm m0 v dx A LA s o m2 (gLd T n 41 0 (skE T n 0, lyB (lyA (A 56) 10) 10))) := by
  show Rn d j_M_lane 0 _ _ _ _
  refine Rn.step (pc' := 1) rfl rfl ?_
  refine Rn.iconst (v := 6) (pc' := 3) rfl (by decide) rfl ?_
  refine Rn.mput (pc' := 6) rfl rfl rfl rfl (by decide) rfl ?_
  refine Rn.iconst (v := 0) (pc' := 7) rfl (by decide) rfl ?_
  refine Rn.step (pc' := 8) rfl rfl ?_
  have e0 : va_up A 60 s = va_up (va_up A 60 s) 56 (lyA (A 56) 0) := by
    funext k
    by_cases e : k = 56
    · subst e
      rw [va_up_self]
      funext j
      exact (if_neg (Nat.not_lt_zero _)).symm
    · exact (up_ne _ _ e).symm
  show Rn d j_M_lane 8 [.ref 50, .int (nI 0)] [] (MM m0 (upd v 11 6) dx (va_up A 60 s) LA) _
  rw [e0]
  refine l_Y_a 0 (by omega) ?_
  refine Rn.iconst (v := 0) (pc' := 38) rfl (by decide) rfl ?_
  refine Rn.step (pc' := 39) rfl rfl ?_
  have e1 : lyA (A 56) 10 = lyB (lyA (A 56) 10) 0 := by
    funext j
    exact (if_neg (by omega)).symm
  show Rn d j_M_lane 39 [.ref 50, .int (nI 0)] [] (MM m0 (upd v 11 6) dx (va_up (va_up A 60 s) 56 (lyA (A 56) 10)) LA) _
  rw [show va_up (va_up A 60 s) 56 (lyA (A 56) 10) = va_up (va_up A 60 s) 56 (lyB (lyA (A 56) 10) 0) by rw [← e1]]
  refine l_Y_b 0 (by omega) ?_
  have hq := ly_ini (A 56)
  generalize lyB (lyA (A 56) 10) 10 = q at hq ⊢
  refine Rn.step (pc' := 62) rfl rfl ?_
  refine Rn.callV (pc' := 65) rfl (by decide) (by omega) rfl rfl rfl (x_readsLane (q := q) (by omega) (by exact h51) (by exact h1) h4 hT rfl (va_up_self _ _ _) hq) (fun r_ m_ hc_ => ?_)
  obtain ⟨v1, A1, rfl, hF1, hv1, hg⟩ := hc_
  have e60 : A1 60 = s := hF1.2.1 60 (by decide) (by decide)
  have hM : MM m0 v1 dx A1 LA = MS m0 v1 dx (va_up A1 60 (A 60)) LA s := by
    show _ = MM m0 v1 dx (va_up (va_up A1 60 (A 60)) 60 s) LA
    rw [up_up, ← e60, up_id]
  have hF2 : xFM (upd v 11 6) A v1 (va_up A1 60 (A 60)) := ⟨hF1.1, fun k a b => by
    by_cases e : k = 60
    · subst e
      rw [va_up_self]
    · rw [up_ne _ _ e, hF1.2.1 k a b, up_ne _ _ b, up_ne _ _ e], fun k hk => hF1.2.2 k hk⟩
  cases hX : gLd T n 41 0 (skE T n 0, q) with
  | inl e =>
    rw [hX] at hg
    obtain ⟨rfl, h9⟩ := hg
    refine Rn.ifc_ne (pc1 := 76) (pc2 := 68) rfl rfl rfl (fun h36 => absurd rfl h36) (fun h36 => ?_)
    refine Rn.iconst (v := (-2)) (pc' := 70) rfl (by decide) rfl ?_
    refine Rn.step (pc' := 71) rfl rfl ?_
    refine Rn.getf (pc' := 74) rfl rfl rfl rfl rfl ?_
    refine Rn.isub (pc' := 75) rfl rfl ?_
    rw [h9.1]
    exact Rn.iret rfl rfl ⟨rfl, v1, _, hM, hF2, hv1⟩
  | inr z =>
    rw [hX] at hg
    obtain ⟨rfl, h56⟩ := hg
    refine Rn.ifc_ne (pc1 := 76) (pc2 := 68) rfl rfl rfl (fun h36 => ?_) (fun h36 => absurd h36 (by decide))
    refine Rn.iconst (v := 0) (pc' := 77) rfl (by decide) rfl ?_
    refine Rn.step (pc' := 78) rfl rfl ?_
    have e2 : lyS (va_up A1 60 (A 60) 56) s 0 = s := by
      funext j
      exact if_neg (Nat.not_lt_zero _)
    show Rn d j_M_lane 78 [.ref 50, .int (nI 0)] [] (MM m0 v1 dx A1 LA) _
    rw [hM, show MS m0 v1 dx (va_up A1 60 (A 60)) LA s = MS m0 v1 dx (va_up A1 60 (A 60)) LA (lyS (va_up A1 60 (A 60) 56) s 0) by rw [e2]]
    refine l_Y_s 0 (by omega) ?_
    refine Rn.conseq l_Y_113 ?_
    rintro o m2 ⟨rfl, rfl⟩
    have e56 : va_up A1 60 (A 60) 56 = z.2 := h56
    refine ⟨?_, v1, va_up A1 60 (A 60), ?_, hF2, hv1⟩
    · rw [e56]
      rfl
    · rw [e56]
      rfl
end W2
end NN2
