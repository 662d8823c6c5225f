/-! THE MODEL: words, the way of a brother. -/
section MY
variable {m0 : xM} {v : Nat → Int32} {dx : Int64} {A : Nat → Nat → Int32} {LA : Nat → Nat → Int64} {s : Nat → Int32}
section MLW
variable {d j pc len pc' : Nat} {ls st : List Value} {Q : Option Value → xM → Prop} {g : Nat → Int64}
theorem Rn.wast {n k : Nat} {i : Int32} {x : Int64} (hG : xG j pc = some (.lastore, len)) (ha : mL 59 = some n) (hi : i = nI k) (hk : k < 15) (hn : (15 : Nat) < 2147483648) (hp : pc + len = pc') (kk : Rn d j pc' ls st (MS m0 v dx A (va_up LA 59 (vp_updL g k x)) s) Q) : Rn d j pc ls (.long x :: .int i :: .ref 59 :: st) (MS m0 v dx A (va_up LA 59 g) s) Q := by
  refine Rn.mlast (a := 59) (n := 15) (k := k) hG rfl hi hk hn hp ?_
  rw [show va_up LA 59 g 59 = g from va_up_self LA 59 g, up_up]
  exact kk
end MLW
/-- the words of b -/
def mWd (s : Nat → Int32) (sec fd : Int32) (Bn Fn Wn b : Nat) : Nat → Int64
  | 0 => (nI b).toInt64
  | 1 => (s (10 + 6 * b + 0)).toInt64
  | 2 => (s (10 + 6 * b + 1)).toInt64
  | 3 => (s (10 + 6 * b + 2)).toInt64
  | 4 => (s 5).toInt64
  | 5 => (s 6).toInt64
  | 6 => (mGo s b Wn).toInt64
  | 7 => match nxw s b Wn with
    | none => 0
    | some q => (s (60 + 4 * q + 3)).toInt64
  | 8 => match nxw s b Wn with
    | none => 0
    | some q => (s (60 + 4 * q + 2) - s 5).toInt64
  | 9 => (s (100 + (s (10 + 6 * b + 0)).toNatClampNeg)).toInt64
  | 10 => if mFr s fd Fn = 0 then 0 else 1
  | 11 => (mBM s sec (nI b)).toInt64
  | 12 => (s (10 + 6 * b + 3)).toInt64
  | 13 => (mOt s b Bn).toInt64
  | _ => ((if s 46 < 0 ∧ mPl s 0 = s (10 + 6 * b + 0) then 1 else 0) + (if s 49 < 0 ∧ mPl s 1 = s (10 + 6 * b + 0) then 1 else 0) : Int32).toInt64
def Wg (W g : Nat → Int64) (k : Nat) : Prop := ∀ i, i < k → g i = W i
theorem Wg.put {W g : Nat → Int64} {k : Nat} {x : Int64} (h : Wg W g k) (hx : x = W k) : Wg W (vp_updL g k x) (k + 1) := by
  intro i hi
  by_cases e : i = k
  · subst e; simp [vp_updL, hx]
  · simp only [vp_updL, if_neg e]; exact h i (by omega)
/-- what words() needs: the numbers of brothers, frosts, wants; where b stands; who wears the boots -/
def mOkB (v s : Nat → Int32) (Bn Fn Wn b : Nat) : Prop := s 2 = nI Bn ∧ Bn ≤ 6 ∧ s 3 = nI Fn ∧ Fn ≤ 4 ∧ s 4 = nI Wn ∧ Wn ≤ 10 ∧ b < 6 ∧ (v 24 = 0 ∨ v 24 = 1) ∧ (∃ q, q < 10 ∧ s (10 + 6 * b + 0) = nI q) ∧ ∀ k, k < 2 → s (46 + 3 * k) < 0 ∨ ∃ c, c < 6 ∧ s (46 + 3 * k) = nI c
theorem sx1 (a : Nat → Int32) (c : Prop) [Decidable c] (x y z : Int32) (h : x = y) : x + z = y + z := by rw [h]
theorem w_286 {d : Nat} {Bn Fn Wn b : Nat} (hok : mOkB v s Bn Fn Wn b) (hd : 2 ≤ d) {g : Nat → Int64} (x0 x1 : Int32) (h0 : x0 = (if s 46 < 0 ∧ mPl s 0 = s (10 + 6 * b + 0) then (1 : Int32) else 0)) (h1 : x1 = (if s 49 < 0 ∧ mPl s 1 = s (10 + 6 * b + 0) then (1 : Int32) else 0)) (hg : Wg (mWd s (v 23) (v 24) Bn Fn Wn b) g 14) : Rn d j_M_words 286 [.ref 50, .int (nI b), .int (eO (nxw s b Wn)), .int (s (10 + 6 * b + 0))] [.int x1, .int x0, .int 14, .ref 59] (MS m0 v dx A (va_up LA 59 g) s) (fun r m2 => r = none ∧ ∃ g2, m2 = MS m0 v dx A (va_up LA 59 g2) s ∧ Wg (mWd s (v 23) (v 24) Bn Fn Wn b) g2 15) := by
  have hok0 := hok
  obtain ⟨hB, hB6, hF, hF4, hW, hW10, hb, hfd, ⟨q0, hq10, hq0⟩, hwr⟩ := hok
  refine Rn.iadd (pc' := 287) rfl rfl ?_
  refine Rn.i2l (pc' := 288) rfl rfl ?_
  refine Rn.wast (k := 14) (pc' := 289) rfl rfl (rfl) (by omega) (by decide) rfl ?_
  exact Rn.vret rfl (⟨rfl, _, rfl, hg.put (by rw [h0, h1]; rfl)⟩)
theorem w_264 {d : Nat} {Bn Fn Wn b : Nat} (hok : mOkB v s Bn Fn Wn b) (hd : 2 ≤ d) {g : Nat → Int64} (x0 : Int32) (h0 : x0 = (if s 46 < 0 ∧ mPl s 0 = s (10 + 6 * b + 0) then (1 : Int32) else 0)) (hg : Wg (mWd s (v 23) (v 24) Bn Fn Wn b) g 14) : Rn d j_M_words 264 [.ref 50, .int (nI b), .int (eO (nxw s b Wn)), .int (s (10 + 6 * b + 0))] [.int x0, .int 14, .ref 59] (MS m0 v dx A (va_up LA 59 g) s) (fun r m2 => r = none ∧ ∃ g2, m2 = MS m0 v dx A (va_up LA 59 g2) s ∧ Wg (mWd s (v 23) (v 24) Bn Fn Wn b) g2 15) := by
  have hok0 := hok
  obtain ⟨hB, hB6, hF, hF4, hW, hW10, hb, hfd, ⟨q0, hq10, hq0⟩, hwr⟩ := hok
  refine Rn.step (pc' := 265) rfl rfl ?_
  refine Rn.iconst (v := 1) (pc' := 266) rfl (by decide) rfl ?_
  refine Rn.vi (pc' := 269) rfl (by decide) (by omega) rfl rfl rfl (c_M_wearerOf 1 (by decide)) ?_
  refine Rn.ifc_ge (pc1 := 285) (pc2 := 272) rfl rfl rfl (fun h269 => ?_) (fun h269 => ?_)
  · refine Rn.iconst (v := 0) (pc' := 286) rfl (by decide) rfl ?_
    exact w_286 hok0 hd x0 _ h0 ((if_neg fun z => Int32.not_lt.mpr h269 z.1).symm) hg
  · refine Rn.step (pc' := 273) rfl rfl ?_
    refine Rn.iconst (v := 1) (pc' := 274) rfl (by decide) rfl ?_
    refine Rn.vi (pc' := 277) rfl (by decide) (by omega) rfl rfl rfl (c_M_placeOf (by omega) 1 (by decide) (hwr 1 (by decide))) ?_
    refine Rn.step (pc' := 278) rfl rfl ?_
    refine Rn.icmp_ne (pc1 := 285) (pc2 := 281) rfl rfl rfl (fun h278 => ?_) (fun h278 => ?_)
    · refine Rn.iconst (v := 0) (pc' := 286) rfl (by decide) rfl ?_
      exact w_286 hok0 hd x0 _ h0 ((if_neg fun z => h278 z.2).symm) hg
    · refine Rn.iconst (v := 1) (pc' := 282) rfl (by decide) rfl ?_
      refine Rn.step (pc' := 286) rfl rfl ?_
      exact w_286 hok0 hd x0 _ h0 ((if_pos ⟨Int32.not_le.mp h269, h278⟩).symm) hg
theorem w_195 {d : Nat} {Bn Fn Wn b : Nat} (hok : mOkB v s Bn Fn Wn b) (hd : 2 ≤ d) {g : Nat → Int64} (x : Int64) (h0 : x = (mWd s (v 23) (v 24) Bn Fn Wn b) 10) (hg : Wg (mWd s (v 23) (v 24) Bn Fn Wn b) g 10) : Rn d j_M_words 195 [.ref 50, .int (nI b), .int (eO (nxw s b Wn)), .int (s (10 + 6 * b + 0))] [.long x, .int 10, .ref 59] (MS m0 v dx A (va_up LA 59 g) s) (fun r m2 => r = none ∧ ∃ g2, m2 = MS m0 v dx A (va_up LA 59 g2) s ∧ Wg (mWd s (v 23) (v 24) Bn Fn Wn b) g2 15) := by
  have hok0 := hok
  obtain ⟨hB, hB6, hF, hF4, hW, hW10, hb, hfd, ⟨q0, hq10, hq0⟩, hwr⟩ := hok
  refine Rn.wast (k := 10) (pc' := 196) rfl rfl (rfl) (by omega) (by decide) rfl ?_
  refine Rn.step (pc' := 197) rfl rfl ?_
  refine Rn.getf (pc' := 200) rfl rfl rfl rfl rfl ?_
  refine Rn.iconst (v := 11) (pc' := 202) rfl (by decide) rfl ?_
  refine Rn.step (pc' := 203) rfl rfl ?_
  refine Rn.step (pc' := 204) rfl rfl ?_
  refine Rn.vi (pc' := 207) rfl (by decide) (by omega) rfl rfl rfl (c_M_bootsMany (by omega) (nI b)) ?_
  refine Rn.i2l (pc' := 208) rfl rfl ?_
  refine Rn.wast (k := 11) (pc' := 209) rfl rfl (rfl) (by omega) (by decide) rfl ?_
  refine Rn.step (pc' := 210) rfl rfl ?_
  refine Rn.getf (pc' := 213) rfl rfl rfl rfl rfl ?_
  refine Rn.iconst (v := 12) (pc' := 215) rfl (by decide) rfl ?_
  refine Rn.step (pc' := 216) rfl rfl ?_
  refine Rn.step (pc' := 217) rfl rfl ?_
  refine Rn.iconst (v := 3) (pc' := 218) rfl (by decide) rfl ?_
  refine Rn.vi (pc' := 221) rfl (by decide) (by omega) rfl rfl rfl (c_M_brotherOf b 3 (by omega)) ?_
  refine Rn.i2l (pc' := 222) rfl rfl ?_
  refine Rn.wast (k := 12) (pc' := 223) rfl rfl (rfl) (by omega) (by decide) rfl ?_
  refine Rn.step (pc' := 224) rfl rfl ?_
  refine Rn.getf (pc' := 227) rfl rfl rfl rfl rfl ?_
  refine Rn.iconst (v := 13) (pc' := 229) rfl (by decide) rfl ?_
  refine Rn.step (pc' := 230) rfl rfl ?_
  refine Rn.step (pc' := 231) rfl rfl ?_
  refine Rn.vi (pc' := 234) rfl (by decide) (by omega) rfl rfl rfl (c_M_othersAt hB hB6 hb (by omega)) ?_
  refine Rn.i2l (pc' := 235) rfl rfl ?_
  refine Rn.wast (k := 13) (pc' := 236) rfl rfl (rfl) (by omega) (by decide) rfl ?_
  refine Rn.step (pc' := 237) rfl rfl ?_
  refine Rn.getf (pc' := 240) rfl rfl rfl rfl rfl ?_
  refine Rn.iconst (v := 14) (pc' := 242) rfl (by decide) rfl ?_
  refine Rn.step (pc' := 243) rfl rfl ?_
  refine Rn.iconst (v := 0) (pc' := 244) rfl (by decide) rfl ?_
  refine Rn.vi (pc' := 247) rfl (by decide) (by omega) rfl rfl rfl (c_M_wearerOf 0 (by decide)) ?_
  refine Rn.ifc_ge (pc1 := 263) (pc2 := 250) rfl rfl rfl (fun h247 => ?_) (fun h247 => ?_)
  · refine Rn.iconst (v := 0) (pc' := 264) rfl (by decide) rfl ?_
    exact w_264 hok0 hd _ ((if_neg fun z => Int32.not_lt.mpr h247 z.1).symm) ((((hg.put h0).put rfl).put rfl).put rfl)
  · refine Rn.step (pc' := 251) rfl rfl ?_
    refine Rn.iconst (v := 0) (pc' := 252) rfl (by decide) rfl ?_
    refine Rn.vi (pc' := 255) rfl (by decide) (by omega) rfl rfl rfl (c_M_placeOf (by omega) 0 (by decide) (hwr 0 (by decide))) ?_
    refine Rn.step (pc' := 256) rfl rfl ?_
    refine Rn.icmp_ne (pc1 := 263) (pc2 := 259) rfl rfl rfl (fun h256 => ?_) (fun h256 => ?_)
    · refine Rn.iconst (v := 0) (pc' := 264) rfl (by decide) rfl ?_
      exact w_264 hok0 hd _ ((if_neg fun z => h256 z.2).symm) ((((hg.put h0).put rfl).put rfl).put rfl)
    · refine Rn.iconst (v := 1) (pc' := 260) rfl (by decide) rfl ?_
      refine Rn.step (pc' := 264) rfl rfl ?_
      exact w_264 hok0 hd _ ((if_pos ⟨Int32.not_le.mp h247, h256⟩).symm) ((((hg.put h0).put rfl).put rfl).put rfl)
theorem w_159 {d : Nat} {Bn Fn Wn b : Nat} (hok : mOkB v s Bn Fn Wn b) (hd : 2 ≤ d) {g : Nat → Int64} (x : Int64) (h0 : x = (mWd s (v 23) (v 24) Bn Fn Wn b) 8) (hg : Wg (mWd s (v 23) (v 24) Bn Fn Wn b) g 8) : Rn d j_M_words 159 [.ref 50, .int (nI b), .int (eO (nxw s b Wn)), .int (s (10 + 6 * b + 0))] [.long x, .int 8, .ref 59] (MS m0 v dx A (va_up LA 59 g) s) (fun r m2 => r = none ∧ ∃ g2, m2 = MS m0 v dx A (va_up LA 59 g2) s ∧ Wg (mWd s (v 23) (v 24) Bn Fn Wn b) g2 15) := by
  have hok0 := hok
  obtain ⟨hB, hB6, hF, hF4, hW, hW10, hb, hfd, ⟨q0, hq10, hq0⟩, hwr⟩ := hok
  refine Rn.wast (k := 8) (pc' := 160) rfl rfl (rfl) (by omega) (by decide) rfl ?_
  refine Rn.step (pc' := 161) rfl rfl ?_
  refine Rn.getf (pc' := 164) rfl rfl rfl rfl rfl ?_
  refine Rn.iconst (v := 9) (pc' := 166) rfl (by decide) rfl ?_
  refine Rn.step (pc' := 167) rfl rfl ?_
  refine Rn.getf (pc' := 170) rfl rfl rfl rfl rfl ?_
  refine Rn.iconst (v := 100) (pc' := 172) rfl (by decide) rfl ?_
  refine Rn.step (pc' := 173) rfl rfl ?_
  refine Rn.iadd (pc' := 174) rfl rfl ?_
  refine Rn.sald (k := 100 + q0) (pc' := 175) rfl rfl (by rw [hq0]; simp only [nI_lit, nI_add]) (by omega) (by decide) rfl ?_
  refine Rn.i2l (pc' := 176) rfl rfl ?_
  refine Rn.wast (k := 9) (pc' := 177) rfl rfl (rfl) (by omega) (by decide) rfl ?_
  refine Rn.step (pc' := 178) rfl rfl ?_
  refine Rn.getf (pc' := 181) rfl rfl rfl rfl rfl ?_
  refine Rn.iconst (v := 10) (pc' := 183) rfl (by decide) rfl ?_
  refine Rn.step (pc' := 184) rfl rfl ?_
  refine Rn.vi (pc' := 187) rfl (by decide) (by omega) rfl rfl rfl (c_M_isFrost hF hF4 hfd) ?_
  refine Rn.ifc_eq (pc1 := 194) (pc2 := 190) rfl rfl rfl (fun h187 => ?_) (fun h187 => ?_)
  · refine Rn.ldc2 (v := 0) (pc' := 195) rfl (by decide) rfl ?_
    exact w_195 hok0 hd _ ((if_pos h187).symm) ((hg.put h0).put (by show _ = (s (100 + (s (10 + 6 * b + 0)).toNatClampNeg)).toInt64; rw [hq0, nI_clamp (by omega)]))
  · refine Rn.ldc2 (v := 1) (pc' := 191) rfl (by decide) rfl ?_
    refine Rn.step (pc' := 195) rfl rfl ?_
    exact w_195 hok0 hd _ ((if_neg h187).symm) ((hg.put h0).put (by show _ = (s (100 + (s (10 + 6 * b + 0)).toNatClampNeg)).toInt64; rw [hq0, nI_clamp (by omega)]))
theorem w_123 {d : Nat} {Bn Fn Wn b : Nat} (hok : mOkB v s Bn Fn Wn b) (hd : 2 ≤ d) {g : Nat → Int64} (x : Int64) (h0 : x = (mWd s (v 23) (v 24) Bn Fn Wn b) 7) (hg : Wg (mWd s (v 23) (v 24) Bn Fn Wn b) g 7) : Rn d j_M_words 123 [.ref 50, .int (nI b), .int (eO (nxw s b Wn)), .int (s (10 + 6 * b + 0))] [.long x, .int 7, .ref 59] (MS m0 v dx A (va_up LA 59 g) s) (fun r m2 => r = none ∧ ∃ g2, m2 = MS m0 v dx A (va_up LA 59 g2) s ∧ Wg (mWd s (v 23) (v 24) Bn Fn Wn b) g2 15) := by
  have hok0 := hok
  obtain ⟨hB, hB6, hF, hF4, hW, hW10, hb, hfd, ⟨q0, hq10, hq0⟩, hwr⟩ := hok
  refine Rn.wast (k := 7) (pc' := 124) rfl rfl (rfl) (by omega) (by decide) rfl ?_
  refine Rn.step (pc' := 125) rfl rfl ?_
  refine Rn.getf (pc' := 128) rfl rfl rfl rfl rfl ?_
  refine Rn.iconst (v := 8) (pc' := 130) rfl (by decide) rfl ?_
  refine Rn.step (pc' := 131) rfl rfl ?_
  refine Rn.ifc_ge (pc1 := 138) (pc2 := 134) rfl rfl rfl (fun h131 => ?_) (fun h131 => ?_)
  · obtain ⟨q, hq⟩ := eO_neg (Int32.not_lt.mpr h131)
    have hqk := nxw_lt hq
    refine Rn.step (pc' := 139) rfl rfl ?_
    refine Rn.getf (pc' := 142) rfl rfl rfl rfl rfl ?_
    refine Rn.iconst (v := 60) (pc' := 144) rfl (by decide) rfl ?_
    refine Rn.iconst (v := 4) (pc' := 145) rfl (by decide) rfl ?_
    refine Rn.step (pc' := 146) rfl rfl ?_
    refine Rn.imul (pc' := 147) rfl rfl ?_
    refine Rn.iadd (pc' := 148) rfl rfl ?_
    refine Rn.iconst (v := 2) (pc' := 149) rfl (by decide) rfl ?_
    refine Rn.iadd (pc' := 150) rfl rfl ?_
    refine Rn.sald (k := 60 + 4 * q + 2) (pc' := 151) rfl rfl (by rw [hq]; simp only [eO, nI_lit, nI_add, pk_mul]) (by omega) (by decide) rfl ?_
    refine Rn.step (pc' := 152) rfl rfl ?_
    refine Rn.getf (pc' := 155) rfl rfl rfl rfl rfl ?_
    refine Rn.iconst (v := 5) (pc' := 156) rfl (by decide) rfl ?_
    refine Rn.sald (k := 5) (pc' := 157) rfl rfl (by simp only [nI_lit, nI_add, pk_mul]) (by omega) (by decide) rfl ?_
    refine Rn.isub (pc' := 158) rfl rfl ?_
    refine Rn.i2l (pc' := 159) rfl rfl ?_
    exact w_159 hok0 hd _ (by show _ = (match nxw s b Wn with
        | none => 0
        | some q => (s (60 + 4 * q + 2) - s 5).toInt64); rw [hq]) (hg.put h0)
  · have hq : nxw s b Wn = none := by
      cases hn : nxw s b Wn with
      | none => rfl
      | some q =>
        have := nxw_lt hn
        rw [hn] at h131
        exact absurd (eO_pos (by omega)) h131
    refine Rn.ldc2 (v := 0) (pc' := 135) rfl (by decide) rfl ?_
    refine Rn.step (pc' := 159) rfl rfl ?_
    exact w_159 hok0 hd _ (by show _ = (match nxw s b Wn with
        | none => 0
        | some q => (s (60 + 4 * q + 2) - s 5).toInt64); rw [hq]) (hg.put h0)
theorem c_M_words {d : Nat} {Bn Fn Wn b : Nat} (hok : mOkB v s Bn Fn Wn b) (hd : 2 ≤ d) {g : Nat → Int64} : Cl d j_M_words [.ref 50, .int (nI b)] (MS m0 v dx A (va_up LA 59 g) s) (fun r m2 => r = none ∧ ∃ g2, m2 = MS m0 v dx A (va_up LA 59 g2) s ∧ Wg (mWd s (v 23) (v 24) Bn Fn Wn b) g2 15) := by
  show Rn d j_M_words 0 _ _ _ _
  have hok0 := hok
  obtain ⟨hB, hB6, hF, hF4, hW, hW10, hb, hfd, ⟨q0, hq10, hq0⟩, hwr⟩ := hok
  have hg0 : Wg (mWd s (v 23) (v 24) Bn Fn Wn b) g 0 := fun i hi => by omega
  refine Rn.step (pc' := 1) rfl rfl ?_
  refine Rn.step (pc' := 2) rfl rfl ?_
  refine Rn.vi (pc' := 5) rfl (by decide) (by omega) rfl rfl rfl (c_M_nextWant hW hW10) ?_
  refine Rn.step (pc' := 6) rfl rfl ?_
  refine Rn.step (pc' := 7) rfl rfl ?_
  refine Rn.step (pc' := 8) rfl rfl ?_
  refine Rn.iconst (v := 0) (pc' := 9) rfl (by decide) rfl ?_
  refine Rn.vi (pc' := 12) rfl (by decide) (by omega) rfl rfl rfl (c_M_brotherOf b 0 (by omega)) ?_
  refine Rn.step (pc' := 13) rfl rfl ?_
  refine Rn.step (pc' := 14) rfl rfl ?_
  refine Rn.getf (pc' := 17) rfl rfl rfl rfl rfl ?_
  refine Rn.iconst (v := 0) (pc' := 18) rfl (by decide) rfl ?_
  refine Rn.step (pc' := 19) rfl rfl ?_
  refine Rn.i2l (pc' := 20) rfl rfl ?_
  refine Rn.wast (k := 0) (pc' := 21) rfl rfl (rfl) (by omega) (by decide) rfl ?_
  refine Rn.step (pc' := 22) rfl rfl ?_
  refine Rn.getf (pc' := 25) rfl rfl rfl rfl rfl ?_
  refine Rn.iconst (v := 1) (pc' := 26) rfl (by decide) rfl ?_
  refine Rn.step (pc' := 27) rfl rfl ?_
  refine Rn.i2l (pc' := 28) rfl rfl ?_
  refine Rn.wast (k := 1) (pc' := 29) rfl rfl (rfl) (by omega) (by decide) rfl ?_
  refine Rn.step (pc' := 30) rfl rfl ?_
  refine Rn.getf (pc' := 33) rfl rfl rfl rfl rfl ?_
  refine Rn.iconst (v := 2) (pc' := 34) rfl (by decide) rfl ?_
  refine Rn.step (pc' := 35) rfl rfl ?_
  refine Rn.step (pc' := 36) rfl rfl ?_
  refine Rn.iconst (v := 1) (pc' := 37) rfl (by decide) rfl ?_
  refine Rn.vi (pc' := 40) rfl (by decide) (by omega) rfl rfl rfl (c_M_brotherOf b 1 (by omega)) ?_
  refine Rn.i2l (pc' := 41) rfl rfl ?_
  refine Rn.wast (k := 2) (pc' := 42) rfl rfl (rfl) (by omega) (by decide) rfl ?_
  refine Rn.step (pc' := 43) rfl rfl ?_
  refine Rn.getf (pc' := 46) rfl rfl rfl rfl rfl ?_
  refine Rn.iconst (v := 3) (pc' := 47) rfl (by decide) rfl ?_
  refine Rn.step (pc' := 48) rfl rfl ?_
  refine Rn.step (pc' := 49) rfl rfl ?_
  refine Rn.iconst (v := 2) (pc' := 50) rfl (by decide) rfl ?_
  refine Rn.vi (pc' := 53) rfl (by decide) (by omega) rfl rfl rfl (c_M_brotherOf b 2 (by omega)) ?_
  refine Rn.i2l (pc' := 54) rfl rfl ?_
  refine Rn.wast (k := 3) (pc' := 55) rfl rfl (rfl) (by omega) (by decide) rfl ?_
  refine Rn.step (pc' := 56) rfl rfl ?_
  refine Rn.getf (pc' := 59) rfl rfl rfl rfl rfl ?_
  refine Rn.iconst (v := 4) (pc' := 60) rfl (by decide) rfl ?_
  refine Rn.step (pc' := 61) rfl rfl ?_
  refine Rn.getf (pc' := 64) rfl rfl rfl rfl rfl ?_
  refine Rn.iconst (v := 5) (pc' := 65) rfl (by decide) rfl ?_
  refine Rn.sald (k := 5) (pc' := 66) rfl rfl (by simp only [nI_lit, nI_add, pk_mul]) (by omega) (by decide) rfl ?_
  refine Rn.i2l (pc' := 67) rfl rfl ?_
  refine Rn.wast (k := 4) (pc' := 68) rfl rfl (rfl) (by omega) (by decide) rfl ?_
  refine Rn.step (pc' := 69) rfl rfl ?_
  refine Rn.getf (pc' := 72) rfl rfl rfl rfl rfl ?_
  refine Rn.iconst (v := 5) (pc' := 73) rfl (by decide) rfl ?_
  refine Rn.step (pc' := 74) rfl rfl ?_
  refine Rn.getf (pc' := 77) rfl rfl rfl rfl rfl ?_
  refine Rn.iconst (v := 6) (pc' := 79) rfl (by decide) rfl ?_
  refine Rn.sald (k := 6) (pc' := 80) rfl rfl (by simp only [nI_lit, nI_add, pk_mul]) (by omega) (by decide) rfl ?_
  refine Rn.i2l (pc' := 81) rfl rfl ?_
  refine Rn.wast (k := 5) (pc' := 82) rfl rfl (rfl) (by omega) (by decide) rfl ?_
  refine Rn.step (pc' := 83) rfl rfl ?_
  refine Rn.getf (pc' := 86) rfl rfl rfl rfl rfl ?_
  refine Rn.iconst (v := 6) (pc' := 88) rfl (by decide) rfl ?_
  refine Rn.step (pc' := 89) rfl rfl ?_
  refine Rn.step (pc' := 90) rfl rfl ?_
  refine Rn.vi (pc' := 93) rfl (by decide) (by omega) rfl rfl rfl (c_M_goalOf (by omega) hW hW10 b hb) ?_
  refine Rn.i2l (pc' := 94) rfl rfl ?_
  refine Rn.wast (k := 6) (pc' := 95) rfl rfl (rfl) (by omega) (by decide) rfl ?_
  refine Rn.step (pc' := 96) rfl rfl ?_
  refine Rn.getf (pc' := 99) rfl rfl rfl rfl rfl ?_
  refine Rn.iconst (v := 7) (pc' := 101) rfl (by decide) rfl ?_
  refine Rn.step (pc' := 102) rfl rfl ?_
  refine Rn.ifc_ge (pc1 := 109) (pc2 := 105) rfl rfl rfl (fun h102 => ?_) (fun h102 => ?_)
  · obtain ⟨q, hq⟩ := eO_neg (Int32.not_lt.mpr h102)
    have hqk := nxw_lt hq
    refine Rn.step (pc' := 110) rfl rfl ?_
    refine Rn.getf (pc' := 113) rfl rfl rfl rfl rfl ?_
    refine Rn.iconst (v := 60) (pc' := 115) rfl (by decide) rfl ?_
    refine Rn.iconst (v := 4) (pc' := 116) rfl (by decide) rfl ?_
    refine Rn.step (pc' := 117) rfl rfl ?_
    refine Rn.imul (pc' := 118) rfl rfl ?_
    refine Rn.iadd (pc' := 119) rfl rfl ?_
    refine Rn.iconst (v := 3) (pc' := 120) rfl (by decide) rfl ?_
    refine Rn.iadd (pc' := 121) rfl rfl ?_
    refine Rn.sald (k := 60 + 4 * q + 3) (pc' := 122) rfl rfl (by rw [hq]; simp only [eO, nI_lit, nI_add, pk_mul]) (by omega) (by decide) rfl ?_
    refine Rn.i2l (pc' := 123) rfl rfl ?_
    exact w_123 hok0 hd _ (by show _ = (match nxw s b Wn with
        | none => 0
        | some q => (s (60 + 4 * q + 3)).toInt64); rw [hq]) (((((((hg0.put rfl).put rfl).put rfl).put rfl).put rfl).put rfl).put rfl)
  · have hq : nxw s b Wn = none := by
      cases hn : nxw s b Wn with
      | none => rfl
      | some q =>
        have := nxw_lt hn
        rw [hn] at h102
        exact absurd (eO_pos (by omega)) h102
    refine Rn.ldc2 (v := 0) (pc' := 106) rfl (by decide) rfl ?_
    refine Rn.step (pc' := 123) rfl rfl ?_
    exact w_123 hok0 hd _ (by show _ = (match nxw s b Wn with
        | none => 0
        | some q => (s (60 + 4 * q + 3)).toInt64); rw [hq]) (((((((hg0.put rfl).put rfl).put rfl).put rfl).put rfl).put rfl).put rfl)
end MY
