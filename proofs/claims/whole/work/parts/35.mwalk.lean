/-! THE MODEL: a brother walks. -/
section MK
variable {m0 : xM} {v : Nat → Int32} {dx : Int64} {A : Nat → Nat → Int32} {LA : Nat → Nat → Int64} {s : Nat → Int32}
theorem up_cm {α : Type} (A : Nat → α) {i j : Nat} (h : i ≠ j) (x y : α) : va_up (va_up A i x) j y = va_up (va_up A j y) i x := by
  funext k
  by_cases h1 : k = i
  · subst h1
    simp [va_up, h]
  · by_cases h2 : k = j
    · subst h2
      simp [va_up, h1]
    · simp [va_up, h1, h2]
theorem MT_W {n : Nat} {f g : Nat → Int64} : MT m0 v dx A (va_up LA 59 g) s n f = MS m0 (upd v 18 (nI n)) dx A (va_up (va_up LA 58 f) 59 g) s := by
  show MM _ _ _ _ _ = MM _ _ _ _ _
  rw [up_cm LA (show 59 ≠ 58 by decide)]
/-- the model's memory but for what is on its stack and in its words -/
def ME (m0 : xM) (v : Nat → Int32) (dx : Int64) (A : Nat → Nat → Int32) (LA : Nat → Nat → Int64) (s : Nat → Int32) (m : xM) : Prop := ∃ (n : Nat) (f g : Nat → Int64), m = MT m0 v dx A (va_up LA 59 g) s n f
theorem stk_congr {wd wd' : Nat → Int64} {ts : Nat → Nat × Nat} {b : Nat} (hw : ∀ i, i < 15 → wd i = wd' i) : ∀ n, (∀ i, b ≤ i → i < b + n → tOk (ts i)) → stk wd ts b n = stk wd' ts b n
  | 0, _ => rfl
  | n + 1, h => by
    rw [stk, stk, stk_congr hw n (fun i h1 h2 => h i h1 (by omega))]
    unfold tkx
    by_cases h1 : (ts (b + n)).1 = 1
    · have := (h (b + n) (by omega) (by omega)).2.1 h1
      rw [hw _ this]
    · simp only [if_neg h1]
theorem smb_congr {wd wd' : Nat → Int64} {ts : Nat → Nat × Nat} {N : Nat} (hw : ∀ i, i < 15 → wd i = wd' i) (ht : ∀ i, i < N → tOk (ts i)) : ∀ (L : List xCl4), (∀ q ∈ L, q.2.1 ≤ N ∧ q.1 ≤ q.2.1 ∧ ∀ t, q.2.2.1 = some t → t ≤ q.2.2.2 ∧ q.2.2.2 ≤ N) → smb wd ts L = smb wd' ts L
  | [], _ => rfl
  | q :: r, h => by
    obtain ⟨h1, h2, h3⟩ := h q List.mem_cons_self
    have ih := smb_congr hw ht r (fun q hq => h q (List.mem_cons_of_mem _ hq))
    have e1 : stk wd ts q.1 (q.2.1 - q.1) = stk wd' ts q.1 (q.2.1 - q.1) := stk_congr hw _ (fun i a b => ht i (by omega))
    have e2 : q.2.2.1 = none ∨ stk wd ts (q.2.2.1.getD 0) (q.2.2.2 - q.2.2.1.getD 0) = stk wd' ts (q.2.2.1.getD 0) (q.2.2.2 - q.2.2.1.getD 0) := by
      cases hq : q.2.2.1 with
      | none => exact Or.inl rfl
      | some t =>
        obtain ⟨a, b⟩ := h3 t hq
        exact Or.inr (stk_congr hw _ (fun i c e => ht i (by simp at c e; omega)))
    rw [smb, smb, e1, ih]
    rcases e2 with e2 | e2
    · simp only [e2, true_or, if_true]
    · rw [e2]
/-- rules, told by their tokens, their lengths, their clauses -/
abbrev xRl : Type := Nat → (Nat → Nat × Nat) × Nat × List xCl4
def mRu (v : Nat → Int32) (A : Nat → Nat → Int32) (rl : xRl) : Prop := v 21 < 0 ∨ ∃ r, r < 6 ∧ v 21 = nI r ∧ RuW A r (rl r).1 (rl r).2.1 (rl r).2.2
/-- the way of b -/
def mWy (fo : Int32) (rl : xRl) (s : Nat → Int32) (sec fd : Int32) (Bn Fn Wn b : Nat) : Int64 := if fo < 0 then (mGo s b Wn - s (10 + 6 * b + 0)).toInt64 else smb (mWd s sec fd Bn Fn Wn b) (rl fo.toNatClampNeg).1 (rl fo.toNatClampNeg).2.2
theorem c_M_wayOf {d : Nat} {rl : xRl} {Bn Fn Wn b : Nat} (hok : mOkB v s Bn Fn Wn b) (hru : mRu v A rl) (hd : 3 ≤ d) {m : xM} (hm : ME m0 v dx A LA s m) : Cl d j_M_wayOf [.ref 50, .int (nI b)] m (fun r m2 => r = some (.long (mWy (v 21) rl s (v 23) (v 24) Bn Fn Wn b)) ∧ ME m0 v dx A LA s m2) := by
  show Rn d j_M_wayOf 0 _ _ _ _
  obtain ⟨n, f, g, rfl⟩ := hm
  have hok0 : mOkB (upd v 18 (nI n)) s Bn Fn Wn b := hok
  obtain ⟨hB, hB6, hF, hF4, hW, hW10, hb, hfd, ⟨q0, hq10, hq0⟩, hwr⟩ := hok
  refine Rn.step (pc' := 1) rfl rfl ?_
  refine Rn.getf (pc' := 4) rfl rfl rfl rfl rfl ?_
  refine Rn.ifc_ge (pc1 := 21) (pc2 := 7) rfl rfl rfl (fun h4 => ?_) (fun h4 => ?_)
  · have h4 : 0 ≤ v 21 := h4
    obtain ⟨r, hr6, hr1, hR⟩ := hru.resolve_left (Int32.not_lt.mpr h4)
    refine Rn.mm (m2 := MS m0 (upd v 18 (nI n)) dx A (va_up (va_up LA 58 f) 59 g) s) MT_W ?_
    refine Rn.step (pc' := 22) rfl rfl ?_
    refine Rn.step (pc' := 23) rfl rfl ?_
    refine Rn.callV (pc' := 26) rfl (by decide) (by omega) rfl rfl rfl (c_M_words (v := upd v 18 (nI n)) (LA := va_up LA 58 f) (g := g) hok0 (by omega)) (fun r_ m_ hc_ => ?_)
    obtain ⟨rfl, g2, rfl, hg2⟩ := hc_
    refine Rn.mm (m2 := MT m0 v dx A (va_up LA 59 g2) s n f) MT_W.symm ?_
    refine Rn.step (pc' := 27) rfl rfl ?_
    refine Rn.step (pc' := 28) rfl rfl ?_
    refine Rn.getf (pc' := 31) rfl rfl rfl rfl rfl ?_
    refine Rn.callV (pc' := 34) rfl (by decide) (by omega) rfl rfl rfl ((by
        rw [show (upd v 18 (nI n)) 21 = nI r from hr1]
        exact c_M_summedBy (LA := va_up LA 59 g2) hr6 hR (by omega) n f)) (fun r_ m_ hc_ => ?_)
    obtain ⟨rfl, n2, f2, rfl⟩ := hc_
    exact Rn.lret rfl (⟨by
        unfold mWy
        rw [if_neg (Int32.not_lt.mpr h4), hr1, nI_clamp (by omega), va_up_self]
        exact congrArg (fun z => some (Value.long z)) (smb_congr hg2 (fun i hi => (hR.2.2.2.1 i hi).2) _ (fun q hq => by
          obtain ⟨c, hc⟩ := List.getElem?_of_mem hq
          obtain ⟨-, -, -, -, a1, a2, -, a3⟩ := hR.2.2.2.2 c q hc
          exact ⟨a2, a1, fun t ht => ⟨(a3 t ht).1, (a3 t ht).2.1⟩⟩)), n2, f2, g2, rfl⟩)
  · have h4 : ¬ 0 ≤ v 21 := h4
    refine Rn.step (pc' := 8) rfl rfl ?_
    refine Rn.step (pc' := 9) rfl rfl ?_
    refine Rn.vi (pc' := 12) rfl (by decide) (by omega) rfl rfl rfl (c_M_goalOf (by omega) hW hW10 b hb) ?_
    refine Rn.step (pc' := 13) rfl rfl ?_
    refine Rn.step (pc' := 14) rfl rfl ?_
    refine Rn.iconst (v := 0) (pc' := 15) rfl (by decide) rfl ?_
    refine Rn.vi (pc' := 18) rfl (by decide) (by omega) rfl rfl rfl (c_M_brotherOf b 0 (by omega)) ?_
    refine Rn.isub (pc' := 19) rfl rfl ?_
    refine Rn.i2l (pc' := 20) rfl rfl ?_
    exact Rn.lret rfl (⟨by unfold mWy; rw [if_pos (Int32.not_le.mp h4)], n, f, g, rfl⟩)
def sg64 (x : Int64) : Int32 := if x < 0 then -1 else if 0 < x then 1 else 0
def mW9 (x : Int32) : Int32 := if 999 < x then 999 else x
/-- the boots wear: the first k of them -/
def mWo (s : Nat → Int32) (x wear : Int32) : Nat → Nat → Int32
  | 0 => s
  | k + 1 => if mWo s x wear k (46 + 3 * k) = x then upd (mWo s x wear k) (46 + 3 * k + 2) (mW9 (mWo s x wear k (46 + 3 * k + 2) + wear)) else mWo s x wear k
theorem mWo_s (s : Nat → Int32) (x wear : Int32) (k : Nat) : mWo s x wear (k + 1) = if mWo s x wear k (46 + 3 * k) = x then upd (mWo s x wear k) (46 + 3 * k + 2) (mW9 (mWo s x wear k (46 + 3 * k + 2) + wear)) else mWo s x wear k := rfl
/-- b walks by a way -/
def mWl (s : Nat → Int32) (b : Nat) (wear : Int32) (way : Int64) : Nat → Int32 :=
  if s (10 + 6 * b + 4) = 1 then s else if (¬ s (10 + 6 * b + 0) + sg64 way < 0 ∧ ¬ s 0 ≤ s (10 + 6 * b + 0) + sg64 way) ∧ ¬ s (10 + 6 * b + 0) + sg64 way = s (10 + 6 * b + 0) then mWo (upd s (10 + 6 * b) (s (10 + 6 * b + 0) + sg64 way)) (nI b) wear 2 else s
theorem l_M_walks {d b : Nat} {wear to : Int32} {way : Int64} {x4 : Value} (hd : 1 ≤ d) (k : Nat) (x7 : Value) (hk : k ≤ 2) : Rn d j_M_walks 85 [.ref 50, .int (nI b), .int wear, .long way, x4, .int to, .int (nI k), x7] [] (MS m0 v dx A LA (mWo s (nI b) wear k)) (Pv (MS m0 v dx A LA (mWo s (nI b) wear 2))) := by
  refine Rn.step (pc' := 87) rfl rfl ?_
  refine Rn.iconst (v := 2) (pc' := 88) rfl (by decide) rfl ?_
  refine Rn.icmp_ge (pc1 := 150) (pc2 := 91) rfl rfl rfl (fun h88 => ?_) (fun h88 => ?_)
  · have hk2 : k = 2 := by
      have := (nI_leI (a := 2) (b := k) (by omega) (by omega)).mp h88
      omega
    subst hk2
    exact Rn.retv rfl (rfl)
  · have hk2 : k < 2 := by
      have := mt (nI_leI (a := 2) (b := k) (by omega) (by omega)).mpr h88
      omega
    refine Rn.step (pc' := 92) rfl rfl ?_
    refine Rn.step (pc' := 94) rfl rfl ?_
    refine Rn.vi (pc' := 97) rfl (by decide) (by omega) rfl rfl rfl (c_M_wearerOf k (by omega)) ?_
    refine Rn.step (pc' := 98) rfl rfl ?_
    refine Rn.icmp_eq (pc1 := 104) (pc2 := 101) rfl rfl rfl (fun h98 => ?_) (fun h98 => ?_)
    · refine Rn.step (pc' := 105) rfl rfl ?_
      refine Rn.step (pc' := 107) rfl rfl ?_
      refine Rn.vi (pc' := 110) rfl (by decide) (by omega) rfl rfl rfl (c_M_wornOf k (by omega)) ?_
      refine Rn.step (pc' := 111) rfl rfl ?_
      refine Rn.iadd (pc' := 112) rfl rfl ?_
      refine Rn.step (pc' := 114) rfl rfl ?_
      refine Rn.step (pc' := 115) rfl rfl ?_
      refine Rn.getf (pc' := 118) rfl rfl rfl rfl rfl ?_
      refine Rn.iconst (v := 46) (pc' := 120) rfl (by decide) rfl ?_
      refine Rn.iconst (v := 3) (pc' := 121) rfl (by decide) rfl ?_
      refine Rn.step (pc' := 123) rfl rfl ?_
      refine Rn.imul (pc' := 124) rfl rfl ?_
      refine Rn.iadd (pc' := 125) rfl rfl ?_
      refine Rn.iconst (v := 2) (pc' := 126) rfl (by decide) rfl ?_
      refine Rn.iadd (pc' := 127) rfl rfl ?_
      refine Rn.step (pc' := 129) rfl rfl ?_
      refine Rn.iconst (v := 999) (pc' := 132) rfl (by decide) rfl ?_
      refine Rn.icmp_le (pc1 := 141) (pc2 := 135) rfl rfl rfl (fun h132 => ?_) (fun h132 => ?_)
      · refine Rn.step (pc' := 143) rfl rfl ?_
        refine Rn.sast (k := 46 + 3 * k + 2) (pc' := 144) rfl rfl (by simp only [nI_lit, nI_add, pk_mul]) (by omega) (by decide) rfl ?_
        refine Rn.step (pc' := 147) rfl rfl ?_
        refine Rn.step (pc' := 85) rfl rfl ?_
        refine Rn.mm (m2 := MS m0 v dx A LA (mWo s (nI b) wear (k + 1))) ?_ (Rn.ls8 rfl rfl rfl rfl rfl rfl (congrArg Value.int (nI_i1 k)) rfl (l_M_walks hd (k + 1) _ (by omega)))
        rw [mWo_s, if_pos h98, mW9, if_neg (Int32.not_lt.mpr h132)]
      · refine Rn.iconst (v := 999) (pc' := 138) rfl (by decide) rfl ?_
        refine Rn.step (pc' := 143) rfl rfl ?_
        refine Rn.sast (k := 46 + 3 * k + 2) (pc' := 144) rfl rfl (by simp only [nI_lit, nI_add, pk_mul]) (by omega) (by decide) rfl ?_
        refine Rn.step (pc' := 147) rfl rfl ?_
        refine Rn.step (pc' := 85) rfl rfl ?_
        refine Rn.mm (m2 := MS m0 v dx A LA (mWo s (nI b) wear (k + 1))) ?_ (Rn.ls8 rfl rfl rfl rfl rfl rfl (congrArg Value.int (nI_i1 k)) rfl (l_M_walks hd (k + 1) _ (by omega)))
        rw [mWo_s, if_pos h98, mW9, if_pos (Int32.not_le.mp h132)]
    · refine Rn.step (pc' := 144) rfl rfl ?_
      refine Rn.step (pc' := 147) rfl rfl ?_
      refine Rn.step (pc' := 85) rfl rfl ?_
      refine Rn.mm (m2 := MS m0 v dx A LA (mWo s (nI b) wear (k + 1))) ?_ (Rn.ls8 rfl rfl rfl rfl rfl rfl (congrArg Value.int (nI_i1 k)) rfl (l_M_walks hd (k + 1) _ (by omega)))
      rw [mWo_s, if_neg h98]
termination_by 2 - k
theorem w_44 {d b n : Nat} {f g : Nat → Int64} {wear : Int32} {way : Int64} (hb : b < 6) (hfz : ¬ s (10 + 6 * b + 4) = 1) (hd : 1 ≤ d) {x5 x6 x7 : Value} : Rn d j_M_walks 44 [.ref 50, .int (nI b), .int wear, .long way, xb, x5, x6, x7] [.int (sg64 way), .int (s (10 + 6 * b + 0))] (MT m0 v dx A (va_up LA 59 g) s n f) (fun r m2 => r = none ∧ ME m0 v dx A LA (mWl s b wear way) m2) := by
  refine Rn.iadd (pc' := 45) rfl rfl ?_
  refine Rn.step (pc' := 47) rfl rfl ?_
  refine Rn.step (pc' := 48) rfl rfl ?_
  refine Rn.step (pc' := 50) rfl rfl ?_
  refine Rn.vi (pc' := 53) rfl (by decide) (by omega) rfl rfl rfl (c_M_isPlace _) ?_
  refine Rn.ifc_eq (pc1 := 67) (pc2 := 56) rfl rfl rfl (fun h53 => ?_) (fun h53 => ?_)
  · exact Rn.vret rfl (⟨rfl, n, f, g, by
        unfold mWl
        rw [if_neg hfz, if_neg]
        intro z
        rw [if_pos z.1] at h53
        exact absurd h53 (by decide)⟩)
  · refine Rn.step (pc' := 58) rfl rfl ?_
    refine Rn.step (pc' := 59) rfl rfl ?_
    refine Rn.step (pc' := 60) rfl rfl ?_
    refine Rn.iconst (v := 0) (pc' := 61) rfl (by decide) rfl ?_
    refine Rn.vi (pc' := 64) rfl (by decide) (by omega) rfl rfl rfl (c_M_brotherOf b 0 (by omega)) ?_
    refine Rn.icmp_ne (pc1 := 68) (pc2 := 67) rfl rfl rfl (fun h64 => ?_) (fun h64 => ?_)
    · refine Rn.step (pc' := 69) rfl rfl ?_
      refine Rn.getf (pc' := 72) rfl rfl rfl rfl rfl ?_
      refine Rn.iconst (v := 10) (pc' := 74) rfl (by decide) rfl ?_
      refine Rn.iconst (v := 6) (pc' := 76) rfl (by decide) rfl ?_
      refine Rn.step (pc' := 77) rfl rfl ?_
      refine Rn.imul (pc' := 78) rfl rfl ?_
      refine Rn.iadd (pc' := 79) rfl rfl ?_
      refine Rn.step (pc' := 81) rfl rfl ?_
      refine Rn.sast (k := 10 + 6 * b) (pc' := 82) rfl rfl (by simp only [nI_lit, nI_add, pk_mul]) (by omega) (by decide) rfl ?_
      refine Rn.iconst (v := 0) (pc' := 83) rfl (by decide) rfl ?_
      refine Rn.step (pc' := 85) rfl rfl ?_
      refine (l_M_walks (v := upd v 18 (nI n)) (LA := va_up (va_up LA 59 g) 58 f) (s := upd s (10 + 6 * b) (s (10 + 6 * b + 0) + sg64 way)) (by omega) 0 _ (by omega)).conseq (fun r2 m2 hq => ?_)
      obtain ⟨rfl, rfl⟩ := hq
      refine ⟨rfl, n, f, g, ?_⟩
      unfold mWl
      rw [if_neg hfz, if_pos]
      refine ⟨?_, h64⟩
      by_cases hz : ¬ s (10 + 6 * b + 0) + sg64 way < 0 ∧ ¬ s 0 ≤ s (10 + 6 * b + 0) + sg64 way
      · exact hz
      · rw [if_neg hz] at h53
        exact absurd rfl h53
    · exact Rn.vret rfl (⟨rfl, n, f, g, by
          unfold mWl
          rw [if_neg hfz, if_neg]
          exact fun z => z.2 h64⟩)
theorem c_M_walks {d : Nat} {rl : xRl} {Bn Fn Wn b : Nat} {wear : Int32} (hok : mOkB v s Bn Fn Wn b) (hru : mRu v A rl) (hd : 4 ≤ d) {m : xM} (hm : ME m0 v dx A LA s m) : Cl d j_M_walks [.ref 50, .int (nI b), .int wear] m (fun r m2 => r = none ∧ ME m0 v dx A LA (mWl s b wear (mWy (v 21) rl s (v 23) (v 24) Bn Fn Wn b)) m2) := by
  show Rn d j_M_walks 0 _ _ _ _
  obtain ⟨n, f, g, rfl⟩ := hm
  have hb : b < 6 := hok.2.2.2.2.2.2.1
  refine Rn.step (pc' := 1) rfl rfl ?_
  refine Rn.step (pc' := 2) rfl rfl ?_
  refine Rn.iconst (v := 4) (pc' := 3) rfl (by decide) rfl ?_
  refine Rn.vi (pc' := 6) rfl (by decide) (by omega) rfl rfl rfl (c_M_brotherOf b 4 (by omega)) ?_
  refine Rn.iconst (v := 1) (pc' := 7) rfl (by decide) rfl ?_
  refine Rn.icmp_ne (pc1 := 11) (pc2 := 10) rfl rfl rfl (fun h7 => ?_) (fun h7 => ?_)
  · refine Rn.step (pc' := 12) rfl rfl ?_
    refine Rn.step (pc' := 13) rfl rfl ?_
    refine Rn.callV (pc' := 16) rfl (by decide) (by omega) rfl rfl rfl (c_M_wayOf hok hru (by omega) ⟨n, f, g, rfl⟩) (fun r_ m_ hc_ => ?_)
    obtain ⟨rfl, n2, f2, g2, rfl⟩ := hc_
    refine Rn.step (pc' := 17) rfl rfl ?_
    refine Rn.step (pc' := 18) rfl rfl ?_
    refine Rn.step (pc' := 19) rfl rfl ?_
    refine Rn.iconst (v := 0) (pc' := 20) rfl (by decide) rfl ?_
    refine Rn.vi (pc' := 23) rfl (by decide) (by omega) rfl rfl rfl (c_M_brotherOf b 0 (by omega)) ?_
    refine Rn.step (pc' := 24) rfl rfl ?_
    refine Rn.ldc2 (v := 0) (pc' := 25) rfl (by decide) rfl ?_
    refine Rn.lcmp (pc' := 26) rfl rfl ?_
    refine Rn.ifc_ge (pc1 := 33) (pc2 := 29) rfl rfl rfl (fun h26 => ?_) (fun h26 => ?_)
    · refine Rn.step (pc' := 34) rfl rfl ?_
      refine Rn.ldc2 (v := 0) (pc' := 35) rfl (by decide) rfl ?_
      refine Rn.lcmp (pc' := 36) rfl rfl ?_
      refine Rn.ifc_le (pc1 := 43) (pc2 := 39) rfl rfl rfl (fun h36 => ?_) (fun h36 => ?_)
      · refine Rn.iconst (v := 0) (pc' := 44) rfl (by decide) rfl ?_
        have hsg : sg64 (mWy (v 21) rl s (v 23) (v 24) Bn Fn Wn b) = 0 := by
          unfold sg64
          rw [if_neg (Int64.not_lt.mpr ((lg_cmp_ge _ _).mp h26)), if_neg (Int64.not_lt.mpr ((lg_cmp_le _ _).mp h36))]
        have := w_44 (m0 := m0) (v := v) (dx := dx) (A := A) (LA := LA) (s := s) (d := d) (wear := wear) (way := mWy (v 21) rl s (v 23) (v 24) Bn Fn Wn b) (n := n2) (f := f2) (g := g2) (x5 := xb) (x6 := xb) (x7 := xb) hb h7 (by omega)
        rw [hsg] at this
        exact this
      · refine Rn.iconst (v := 1) (pc' := 40) rfl (by decide) rfl ?_
        refine Rn.step (pc' := 44) rfl rfl ?_
        have hsg : sg64 (mWy (v 21) rl s (v 23) (v 24) Bn Fn Wn b) = 1 := by
          unfold sg64
          rw [if_neg (Int64.not_lt.mpr ((lg_cmp_ge _ _).mp h26)), if_pos ((lg_cmp_gt _ _).mp (Int32.not_le.mp h36))]
        have := w_44 (m0 := m0) (v := v) (dx := dx) (A := A) (LA := LA) (s := s) (d := d) (wear := wear) (way := mWy (v 21) rl s (v 23) (v 24) Bn Fn Wn b) (n := n2) (f := f2) (g := g2) (x5 := xb) (x6 := xb) (x7 := xb) hb h7 (by omega)
        rw [hsg] at this
        exact this
    · refine Rn.iconst (v := (-1)) (pc' := 30) rfl (by decide) rfl ?_
      refine Rn.step (pc' := 44) rfl rfl ?_
      have hsg : sg64 (mWy (v 21) rl s (v 23) (v 24) Bn Fn Wn b) = -1 := by
        unfold sg64
        rw [if_pos ((lg_cmp_lt _ _).mp (Int32.not_le.mp h26))]
      have := w_44 (m0 := m0) (v := v) (dx := dx) (A := A) (LA := LA) (s := s) (d := d) (wear := wear) (way := mWy (v 21) rl s (v 23) (v 24) Bn Fn Wn b) (n := n2) (f := f2) (g := g2) (x5 := xb) (x6 := xb) (x7 := xb) hb h7 (by omega)
      rw [hsg] at this
      exact this
  · exact Rn.vret rfl (⟨rfl, n, f, g, by unfold mWl; rw [if_pos h7]⟩)
end MK
