/-! THE MODEL: rules reckoned. -/
section MR
variable {m0 : xM} {v : Nat → Int32} {dx : Int64} {A : Nat → Nat → Int32} {LA : Nat → Nat → Int64} {s : Nat → Int32}
section MLR
variable {d j pc len pc' : Nat} {ls st : List Value} {Q : Option Value → xM → Prop}
theorem Rn.mlald {a n k : Nat} {i : Int32} (hG : xG j pc = some (.laload, len)) (ha : mL a = some n) (hi : i = nI k) (hk : k < n) (hn : n < 2147483648) (hp : pc + len = pc') (kk : Rn d j pc' ls (.long (LA a k) :: st) (MM m0 v dx A LA) Q) : Rn d j pc ls (.int i :: .ref a :: st) (MM m0 v dx A LA) Q := by
  subst hi
  refine Rn.lald hG (MM_L ha) (vp_in_nI hk hn) hp ?_
  rw [nI_clamp (by omega)]
  exact kk
theorem Rn.mlast {a n k : Nat} {i : Int32} {x : Int64} (hG : xG j pc = some (.lastore, len)) (ha : mL a = some n) (hi : i = nI k) (hk : k < n) (hn : n < 2147483648) (hp : pc + len = pc') (kk : Rn d j pc' ls st (MM m0 v dx A (va_up LA a (vp_updL (LA a) k x))) Q) : Rn d j pc ls (.long x :: .int i :: .ref a :: st) (MM m0 v dx A LA) Q := by
  subst hi
  obtain ⟨h1, h2, -, -⟩ := mL_in ha
  refine Rn.last hG (by unfold xS; omega) (MM_L ha) (vp_in_nI hk hn) hp ?_
  rw [nI_clamp (by omega), MM_setL ha]
  exact kk
end MLR
theorem upd_u (f : Nat → Int32) (k : Nat) (x y : Int32) : upd (upd f k x) k y = upd f k y := by
  funext j
  by_cases h : j = k <;> simp [upd, h]
/-- the model's memory with n numbers on its stack f -/
abbrev MT (m0 : xM) (v : Nat → Int32) (dx : Int64) (A : Nat → Nat → Int32) (LA : Nat → Nat → Int64) (s : Nat → Int32) (n : Nat) (f : Nat → Int64) : xM := MS m0 (upd v 18 (nI n)) dx A (va_up LA 58 f) s
variable {f : Nat → Int64}
theorem MT_MT {n : Nat} {x : Int32} {g : Nat → Int64} : MT m0 (upd v 18 x) dx A (va_up LA 58 f) s n g = MT m0 v dx A LA s n g := by
  show MM _ _ _ _ _ = MM _ _ _ _ _
  rw [upd_u, up_up]
theorem MT_0 : MM m0 (upd v 18 0) dx (va_up A 60 s) LA = MT m0 v dx A LA s 0 (LA 58) := by
  show _ = MM m0 (upd v 18 (nI 0)) dx (va_up A 60 s) (va_up LA 58 (LA 58))
  rw [up_id]
  rfl
theorem c_M_push {d : Nat} {n : Nat} (x : Int64) (hn : n < 64) : Cl d j_M_push [.ref 50, .long x] (MT m0 v dx A LA s n f) (Pv (MT m0 v dx A LA s (n + 1) (vp_updL f n x))) := by
  show Rn d j_M_push 0 _ _ _ _
  refine Rn.step (pc' := 1) rfl rfl ?_
  refine Rn.getf (pc' := 4) rfl rfl rfl rfl rfl ?_
  refine Rn.step (pc' := 5) rfl rfl ?_
  refine Rn.getf (pc' := 8) rfl rfl rfl rfl rfl ?_
  refine Rn.step (pc' := 9) rfl rfl ?_
  refine Rn.mlast (k := n) (pc' := 10) rfl rfl (upd_s _ _ _) (hn) (by decide) rfl ?_
  refine Rn.step (pc' := 11) rfl rfl ?_
  refine Rn.step (pc' := 12) rfl rfl ?_
  refine Rn.getf (pc' := 15) rfl rfl rfl rfl rfl ?_
  refine Rn.iconst (v := 1) (pc' := 16) rfl (by decide) rfl ?_
  refine Rn.iadd (pc' := 17) rfl rfl ?_
  refine Rn.mput (pc' := 20) rfl rfl rfl rfl (by decide) rfl ?_
  exact Rn.retv rfl (by rw [up_up, va_up_self, upd_u, upd_s, nI_1])
theorem c_M_pop {d : Nat} {n : Nat} (hn : n < 64) : Cl d j_M_pop [.ref 50] (MT m0 v dx A LA s (n + 1) f) (Pg (f n) (MT m0 v dx A LA s n f)) := by
  show Rn d j_M_pop 0 _ _ _ _
  refine Rn.step (pc' := 1) rfl rfl ?_
  refine Rn.step (pc' := 2) rfl rfl ?_
  refine Rn.getf (pc' := 5) rfl rfl rfl rfl rfl ?_
  refine Rn.iconst (v := 1) (pc' := 6) rfl (by decide) rfl ?_
  refine Rn.isub (pc' := 7) rfl rfl ?_
  refine Rn.mput (pc' := 10) rfl rfl rfl rfl (by decide) rfl ?_
  refine Rn.step (pc' := 11) rfl rfl ?_
  refine Rn.getf (pc' := 14) rfl rfl rfl rfl rfl ?_
  refine Rn.step (pc' := 15) rfl rfl ?_
  refine Rn.getf (pc' := 18) rfl rfl rfl rfl rfl ?_
  refine Rn.mlald (k := n) (pc' := 19) rfl rfl (by rw [upd_s, upd_s]; exact nI_pred n) (hn) (by decide) rfl ?_
  exact Rn.retl rfl (by rw [va_up_self]) (by rw [upd_u, upd_s]; exact congrArg (fun z => MS m0 (upd v 18 z) dx A (va_up LA 58 f) s) (nI_pred n))
/-- what a sign of two numbers answers -/
def opr (c : Nat) (x y : Int64) : Int64 := match c with
  | 2 => x + y
  | 3 => x - y
  | 4 => x * y
  | 5 => if y = 0 then 0 else x / y
  | 6 => if x < y then 1 else 0
  | 7 => if x ≤ y then 1 else 0
  | 8 => if x = y then 1 else 0
  | 9 => if y ≤ x then 1 else 0
  | 10 => if y < x then 1 else 0
  | 12 => x &&& y
  | 14 => if y = 0 then 0 else x - x / y * y
  | _ => x ||| y
theorem Rn.tsw {d j pc len : Nat} {ls st : List Value} {m : xM} {Q : Option Value → xM → Prop} {dd lo hi : Int} {offs : Array Int} {x : Int32} {t : Int} {pc1 : Nat} (hG : xG j pc = some (.tableswitch dd lo hi offs, len)) (h1 : ¬ (x.toInt < lo ∨ hi < x.toInt)) (h2 : offs[(x.toInt - lo).toNat]? = some t) (h3 : t.toNat = pc1) (kk : Rn d j pc1 ls st m Q) : Rn d j pc ls (.int x :: st) m Q := by
  subst h3
  exact Rn.step hG (by simp only [xs, if_neg h1, h2]) kk
theorem Rn.tsd {d j pc len : Nat} {ls st : List Value} {m : xM} {Q : Option Value → xM → Prop} {dd lo hi : Int} {offs : Array Int} {x : Int32} {pc1 : Nat} (hG : xG j pc = some (.tableswitch dd lo hi offs, len)) (h1 : x.toInt < lo ∨ hi < x.toInt) (h3 : dd.toNat = pc1) (kk : Rn d j pc1 ls st m Q) : Rn d j pc ls (.int x :: st) m Q := by
  subst h3
  exact Rn.step hG (by simp only [xs, if_pos h1]) kk
theorem c_M_one {d : Nat} {m : xM} (c : Nat) (hc : 2 ≤ c ∧ c < 15 ∧ c ≠ 11) (x y : Int64) : Cl d j_M_one [.int (nI c), .long x, .long y] m (Pg (opr c x y) m) := by
  show Rn d j_M_one 0 _ _ _ _
  refine Rn.step (pc' := 1) rfl rfl ?_
  match c, hc with
  | 0, hc => omega
  | 1, hc => omega
  | 11, hc => omega
  | 2, _ =>
    refine Rn.tsw (pc1 := 68) rfl (by decide) rfl rfl ?_
    refine Rn.step (pc' := 69) rfl rfl ?_
    refine Rn.step (pc' := 70) rfl rfl ?_
    refine Rn.ladd (pc' := 71) rfl rfl ?_
    exact Rn.retl rfl (rfl) (rfl)
  | 3, _ =>
    refine Rn.tsw (pc1 := 72) rfl (by decide) rfl rfl ?_
    refine Rn.step (pc' := 73) rfl rfl ?_
    refine Rn.step (pc' := 74) rfl rfl ?_
    refine Rn.lsub (pc' := 75) rfl rfl ?_
    exact Rn.retl rfl (rfl) (rfl)
  | 4, _ =>
    refine Rn.tsw (pc1 := 76) rfl (by decide) rfl rfl ?_
    refine Rn.step (pc' := 77) rfl rfl ?_
    refine Rn.step (pc' := 78) rfl rfl ?_
    refine Rn.lmul (pc' := 79) rfl rfl ?_
    exact Rn.retl rfl (rfl) (rfl)
  | 5, _ =>
    refine Rn.tsw (pc1 := 80) rfl (by decide) rfl rfl ?_
    refine Rn.step (pc' := 81) rfl rfl ?_
    refine Rn.ldc2 (v := 0) (pc' := 82) rfl (by decide) rfl ?_
    refine Rn.lcmp (pc' := 83) rfl rfl ?_
    refine Rn.ifc_ne (pc1 := 90) (pc2 := 86) rfl rfl rfl (fun h83 => ?_) (fun h83 => ?_)
    · refine Rn.step (pc' := 91) rfl rfl ?_
      refine Rn.step (pc' := 92) rfl rfl ?_
      refine Rn.ldiv (pc' := 93) rfl (fun e => h83 ((lg_cmp_eq _ _).mpr e)) rfl ?_
      exact Rn.retl rfl ((if_neg (fun e => h83 ((lg_cmp_eq _ _).mpr e))).symm) (rfl)
    · refine Rn.ldc2 (v := 0) (pc' := 87) rfl (by decide) rfl ?_
      refine Rn.step (pc' := 93) rfl rfl ?_
      exact Rn.retl rfl ((if_pos ((lg_cmp_eq _ _).mp h83)).symm) (rfl)
  | 6, _ =>
    refine Rn.tsw (pc1 := 108) rfl (by decide) rfl rfl ?_
    refine Rn.step (pc' := 109) rfl rfl ?_
    refine Rn.step (pc' := 110) rfl rfl ?_
    refine Rn.lcmp (pc' := 111) rfl rfl ?_
    refine Rn.ifc_ge (pc1 := 118) (pc2 := 114) rfl rfl rfl (fun h111 => ?_) (fun h111 => ?_)
    · refine Rn.ldc2 (v := 0) (pc' := 119) rfl (by decide) rfl ?_
      exact Rn.retl rfl ((if_neg (Int64.not_lt.mpr ((lg_cmp_ge _ _).mp h111))).symm) (rfl)
    · refine Rn.ldc2 (v := 1) (pc' := 115) rfl (by decide) rfl ?_
      refine Rn.step (pc' := 119) rfl rfl ?_
      exact Rn.retl rfl ((if_pos (Int64.not_le.mp fun e => h111 ((lg_cmp_ge _ _).mpr e))).symm) (rfl)
  | 7, _ =>
    refine Rn.tsw (pc1 := 120) rfl (by decide) rfl rfl ?_
    refine Rn.step (pc' := 121) rfl rfl ?_
    refine Rn.step (pc' := 122) rfl rfl ?_
    refine Rn.lcmp (pc' := 123) rfl rfl ?_
    refine Rn.ifc_gt (pc1 := 130) (pc2 := 126) rfl rfl rfl (fun h123 => ?_) (fun h123 => ?_)
    · refine Rn.ldc2 (v := 0) (pc' := 131) rfl (by decide) rfl ?_
      exact Rn.retl rfl ((if_neg (Int64.not_le.mpr ((lg_cmp_gt _ _).mp h123))).symm) (rfl)
    · refine Rn.ldc2 (v := 1) (pc' := 127) rfl (by decide) rfl ?_
      refine Rn.step (pc' := 131) rfl rfl ?_
      exact Rn.retl rfl ((if_pos (Int64.not_lt.mp fun e => h123 ((lg_cmp_gt _ _).mpr e))).symm) (rfl)
  | 8, _ =>
    refine Rn.tsw (pc1 := 132) rfl (by decide) rfl rfl ?_
    refine Rn.step (pc' := 133) rfl rfl ?_
    refine Rn.step (pc' := 134) rfl rfl ?_
    refine Rn.lcmp (pc' := 135) rfl rfl ?_
    refine Rn.ifc_ne (pc1 := 142) (pc2 := 138) rfl rfl rfl (fun h135 => ?_) (fun h135 => ?_)
    · refine Rn.ldc2 (v := 0) (pc' := 143) rfl (by decide) rfl ?_
      exact Rn.retl rfl ((if_neg (fun e => h135 ((lg_cmp_eq _ _).mpr e))).symm) (rfl)
    · refine Rn.ldc2 (v := 1) (pc' := 139) rfl (by decide) rfl ?_
      refine Rn.step (pc' := 143) rfl rfl ?_
      exact Rn.retl rfl ((if_pos ((lg_cmp_eq _ _).mp h135)).symm) (rfl)
  | 9, _ =>
    refine Rn.tsw (pc1 := 144) rfl (by decide) rfl rfl ?_
    refine Rn.step (pc' := 145) rfl rfl ?_
    refine Rn.step (pc' := 146) rfl rfl ?_
    refine Rn.lcmp (pc' := 147) rfl rfl ?_
    refine Rn.ifc_lt (pc1 := 154) (pc2 := 150) rfl rfl rfl (fun h147 => ?_) (fun h147 => ?_)
    · refine Rn.ldc2 (v := 0) (pc' := 155) rfl (by decide) rfl ?_
      exact Rn.retl rfl ((if_neg (Int64.not_le.mpr ((lg_cmp_lt _ _).mp h147))).symm) (rfl)
    · refine Rn.ldc2 (v := 1) (pc' := 151) rfl (by decide) rfl ?_
      refine Rn.step (pc' := 155) rfl rfl ?_
      exact Rn.retl rfl ((if_pos (Int64.not_lt.mp fun e => h147 ((lg_cmp_lt _ _).mpr e))).symm) (rfl)
  | 10, _ =>
    refine Rn.tsw (pc1 := 156) rfl (by decide) rfl rfl ?_
    refine Rn.step (pc' := 157) rfl rfl ?_
    refine Rn.step (pc' := 158) rfl rfl ?_
    refine Rn.lcmp (pc' := 159) rfl rfl ?_
    refine Rn.ifc_le (pc1 := 166) (pc2 := 162) rfl rfl rfl (fun h159 => ?_) (fun h159 => ?_)
    · refine Rn.ldc2 (v := 0) (pc' := 167) rfl (by decide) rfl ?_
      exact Rn.retl rfl ((if_neg (Int64.not_lt.mpr ((lg_cmp_le _ _).mp h159))).symm) (rfl)
    · refine Rn.ldc2 (v := 1) (pc' := 163) rfl (by decide) rfl ?_
      refine Rn.step (pc' := 167) rfl rfl ?_
      exact Rn.retl rfl ((if_pos (Int64.not_le.mp fun e => h159 ((lg_cmp_le _ _).mpr e))).symm) (rfl)
  | 12, _ =>
    refine Rn.tsw (pc1 := 168) rfl (by decide) rfl rfl ?_
    refine Rn.step (pc' := 169) rfl rfl ?_
    refine Rn.step (pc' := 170) rfl rfl ?_
    refine Rn.land (pc' := 171) rfl rfl ?_
    exact Rn.retl rfl (rfl) (rfl)
  | 13, _ =>
    refine Rn.tsw (pc1 := 172) rfl (by decide) rfl rfl ?_
    refine Rn.step (pc' := 173) rfl rfl ?_
    refine Rn.step (pc' := 174) rfl rfl ?_
    refine Rn.lor (pc' := 175) rfl rfl ?_
    exact Rn.retl rfl (rfl) (rfl)
  | 14, _ =>
    refine Rn.tsw (pc1 := 94) rfl (by decide) rfl rfl ?_
    refine Rn.step (pc' := 95) rfl rfl ?_
    refine Rn.ldc2 (v := 0) (pc' := 96) rfl (by decide) rfl ?_
    refine Rn.lcmp (pc' := 97) rfl rfl ?_
    refine Rn.ifc_ne (pc1 := 104) (pc2 := 100) rfl rfl rfl (fun h97 => ?_) (fun h97 => ?_)
    · refine Rn.step (pc' := 105) rfl rfl ?_
      refine Rn.step (pc' := 106) rfl rfl ?_
      refine Rn.lrem (pc' := 107) rfl (fun e => h97 ((lg_cmp_eq _ _).mpr e)) rfl ?_
      exact Rn.retl rfl ((if_neg (fun e => h97 ((lg_cmp_eq _ _).mpr e))).symm) (rfl)
    · refine Rn.ldc2 (v := 0) (pc' := 101) rfl (by decide) rfl ?_
      refine Rn.step (pc' := 107) rfl rfl ?_
      exact Rn.retl rfl ((if_pos ((lg_cmp_eq _ _).mp h97)).symm) (rfl)
  | c + 15, hc => omega
/-- a token: its sign, its value; what it does to a stack -/
def tkx (wd : Nat → Int64) (t : Nat × Nat) (st : List Int64) : List Int64 :=
  if t.1 = 0 then (nI t.2).toInt64 :: st else if t.1 = 1 then wd t.2 :: st else if t.1 = 11 then (match st with
    | x :: r => (1 - x) :: r
    | [] => []) else match st with
    | y :: x :: r => opr t.1 x y :: r
    | _ => []
def tkd (t : Nat × Nat) (n : Nat) : Option Nat :=
  if t.1 = 0 ∨ t.1 = 1 then (if n < 40 then some (n + 1) else none) else if t.1 = 11 then (if 1 ≤ n then some n else none) else if 2 ≤ n then some (n - 1) else none
def stk (wd : Nat → Int64) (ts : Nat → Nat × Nat) (b : Nat) : Nat → List Int64
  | 0 => []
  | n + 1 => tkx wd (ts (b + n)) (stk wd ts b n)
def dpt (ts : Nat → Nat × Nat) (b : Nat) : Nat → Option Nat
  | 0 => some 0
  | n + 1 => (dpt ts b n).bind (tkd (ts (b + n)))
def tOk (t : Nat × Nat) : Prop := t.1 < 15 ∧ (t.1 = 1 → t.2 < 15) ∧ t.2 < 100000
theorem tkd_le {t : Nat × Nat} {n k : Nat} (hn : n ≤ 40) (h : tkd t n = some k) : k ≤ 40 := by
  unfold tkd at h
  repeat' (split at h)
  all_goals (first | (cases h; omega) | cases h)
theorem dpt_le {ts : Nat → Nat × Nat} {b : Nat} : ∀ {n k : Nat}, dpt ts b n = some k → k ≤ 40
  | 0, k, h => by cases h; omega
  | n + 1, k, h => by
    obtain ⟨q, h1, h2⟩ := Option.bind_eq_some_iff.mp h
    exact tkd_le (dpt_le h1) h2
theorem dpt_pre {ts : Nat → Nat × Nat} {b n N r : Nat} (h : n ≤ N) (hN : dpt ts b N = some r) : ∃ k, dpt ts b n = some k := by
  induction N generalizing r with
  | zero => exact ⟨0, by rw [Nat.le_zero.mp h]; rfl⟩
  | succ N ih =>
    by_cases he : n = N + 1
    · exact ⟨r, by rw [he]; exact hN⟩
    · obtain ⟨q, h1, h2⟩ := Option.bind_eq_some_iff.mp hN
      exact ih (by omega) h1
theorem tkx_len {wd : Nat → Int64} {t : Nat × Nat} {st : List Int64} {k : Nat} (h : tkd t st.length = some k) : (tkx wd t st).length = k := by
  unfold tkd at h
  unfold tkx
  split at h
  · rename_i h0
    split at h
    · cases h
      rcases h0 with h0 | h0
      · rw [if_pos h0]; rfl
      · rw [if_neg (by omega), if_pos h0]; rfl
    · cases h
  · rename_i h0
    rw [if_neg (fun e => h0 (Or.inl e)), if_neg (fun e => h0 (Or.inr e))]
    split at h
    · rename_i h11
      rw [if_pos h11]
      split at h
      · cases h
        cases st with
        | nil => rename_i h1; simp at h1
        | cons x r => rfl
      · cases h
    · rename_i h11
      rw [if_neg h11]
      split at h
      · cases h
        rename_i h2
        match st, h2 with
        | y :: x :: r, _ => simp
      · cases h
theorem stk_len {wd : Nat → Int64} {ts : Nat → Nat × Nat} {b : Nat} : ∀ {n k : Nat}, dpt ts b n = some k → (stk wd ts b n).length = k
  | 0, k, h => by cases h; rfl
  | n + 1, k, h => by
    obtain ⟨q, h1, h2⟩ := Option.bind_eq_some_iff.mp h
    have := stk_len (wd := wd) h1
    subst this
    exact tkx_len h2
/-- the array f holds the stack st, its bottom first -/
def SR (f : Nat → Int64) (st : List Int64) : Prop := ∀ p x, st.reverse[p]? = some x → f p = x
theorem SR.push {st : List Int64} {x : Int64} (h : SR f st) : SR (vp_updL f st.length x) (x :: st) := by
  intro p y hy
  rw [List.reverse_cons] at hy
  by_cases hp : p < st.length
  · rw [List.getElem?_append_left (by simpa using hp)] at hy
    have : p ≠ st.length := by omega
    simp only [vp_updL, if_neg this]
    exact h p y hy
  · have hp2 : p = st.length := by
      have := (List.getElem?_eq_some_iff.mp hy).1
      simp at this
      omega
    subst hp2
    rw [List.getElem?_append_right (by simp)] at hy
    simp at hy
    simp [vp_updL, hy]
theorem SR.top {st : List Int64} {x : Int64} (h : SR f (x :: st)) : f st.length = x := h _ _ (by rw [List.reverse_cons, List.getElem?_append_right (by simp)]; simp)
theorem SR.pop {st : List Int64} {x : Int64} (h : SR f (x :: st)) : SR f st := by
  intro p y hy
  refine h p y ?_
  rw [List.reverse_cons, List.getElem?_append_left (List.getElem?_eq_some_iff.mp hy).1]
  exact hy
theorem tk_c {c q : Nat} (hc : c < 15) (hq : q < 100000) : nI (c + 16 * q) &&& 15 = nI c := by
  rw [pk_andN (n := c + 16 * q) (by omega) (m := 15) 4 (by decide)]
  congr 1
  omega
theorem tk_v {c q : Nat} (hc : c < 15) (hq : q < 100000) : nI (c + 16 * q) >>> ((4 : Int32) &&& 31) = nI q := by
  rw [pk_shrN (n := c + 16 * q) (by omega) _ 4 (by decide)]
  congr 1
  omega
theorem l_M_reckons {d t b e : Nat} {ts : Nat → Nat × Nat} (hts : ∀ i, b ≤ i → i < e → A 52 (400 * t + i) = nI ((ts i).1 + 16 * (ts i).2) ∧ tOk (ts i)) (ht : t < 6) (he : e ≤ 400) (hdp : dpt ts b (e - b) = some 1) (hd : 1 ≤ d) (n k : Nat) (f : Nat → Int64) (x5 x6 x7 x8 x9 x10 : Value) (hn : b + n ≤ e) (hk : dpt ts b n = some k) (hs : SR f (stk (LA 59) ts b n)) : Rn d j_M_reckons 8 [.ref 50, .int (nI t), .int (nI b), .int (nI e), .int (nI (b + n)), x5, x6, x7, x8, x9, x10] [] (MT m0 v dx A LA s k f) (fun r m2 => r = some (.long ((stk (LA 59) ts b (e - b)).headD 0)) ∧ ∃ f2, m2 = MT m0 v dx A LA s 0 f2) := by
  refine Rn.step (pc' := 10) rfl rfl ?_
  refine Rn.step (pc' := 11) rfl rfl ?_
  refine Rn.icmp_ge (pc1 := 135) (pc2 := 14) rfl rfl rfl (fun h11 => ?_) (fun h11 => ?_)
  · have hne : b + n = e := by
      have := (nI_leI (a := e) (b := b + n) (by omega) (by omega)).mp h11
      omega
    obtain rfl : n = e - b := by omega
    obtain rfl : k = 0 + 1 := Option.some.inj (hk.symm.trans hdp)
    refine Rn.step (pc' := 136) rfl rfl ?_
    refine Rn.vg (pc' := 139) rfl (by decide) (by omega) rfl rfl rfl (c_M_pop (n := 0) (by omega)) ?_
    exact Rn.lret rfl (⟨congrArg (fun z => some (Value.long z)) (by
        have hl := stk_len (wd := LA 59) hk
        match hstk : stk (LA 59) ts b (e - b), hl with
        | [z], _ => rw [hstk] at hs; exact hs.top), _, rfl⟩)
  · have hlt : b + n < e := by
      have := mt (nI_leI (a := e) (b := b + n) (by omega) (by omega)).mpr h11
      omega
    obtain ⟨hsg, hok⟩ := hts (b + n) (by omega) hlt
    have hk40 := dpt_le hk
    have hlen := stk_len (wd := LA 59) hk
    obtain ⟨k2, hk2⟩ := dpt_pre (n := n + 1) (by omega) hdp
    have hd2 : tkd (ts (b + n)) k = some k2 := by
      have := hk2
      rw [dpt, hk] at this
      exact this
    have hlen2 := stk_len (wd := LA 59) hk2
    refine Rn.step (pc' := 15) rfl rfl ?_
    refine Rn.getf (pc' := 18) rfl rfl rfl rfl rfl ?_
    refine Rn.iconst (v := 400) (pc' := 21) rfl (by decide) rfl ?_
    refine Rn.step (pc' := 22) rfl rfl ?_
    refine Rn.imul (pc' := 23) rfl rfl ?_
    refine Rn.step (pc' := 25) rfl rfl ?_
    refine Rn.iadd (pc' := 26) rfl rfl ?_
    refine Rn.mald (k := 400 * t + (b + n)) (pc' := 27) rfl rfl (by simp only [nI_lit, nI_add, pk_mul]) (by omega) (by decide) rfl ?_
    refine Rn.iconst (v := 15) (pc' := 29) rfl (by decide) rfl ?_
    refine Rn.iand (pc' := 30) rfl rfl ?_
    refine Rn.step (pc' := 32) rfl rfl ?_
    refine Rn.step (pc' := 33) rfl rfl ?_
    refine Rn.getf (pc' := 36) rfl rfl rfl rfl rfl ?_
    refine Rn.iconst (v := 400) (pc' := 39) rfl (by decide) rfl ?_
    refine Rn.step (pc' := 40) rfl rfl ?_
    refine Rn.imul (pc' := 41) rfl rfl ?_
    refine Rn.step (pc' := 43) rfl rfl ?_
    refine Rn.iadd (pc' := 44) rfl rfl ?_
    refine Rn.mald (k := 400 * t + (b + n)) (pc' := 45) rfl rfl (by simp only [nI_lit, nI_add, pk_mul]) (by omega) (by decide) rfl ?_
    refine Rn.iconst (v := 4) (pc' := 46) rfl (by decide) rfl ?_
    refine Rn.ishr (pc' := 47) rfl rfl ?_
    refine Rn.step (pc' := 49) rfl rfl ?_
    refine Rn.ls11 (b5 := .int (nI (ts (b + n)).1)) (b6 := .int (nI (ts (b + n)).2)) rfl rfl rfl rfl rfl (congrArg Value.int (by rw [show va_up A 60 s 52 (400 * t + (b + n)) = nI ((ts (b + n)).1 + 16 * (ts (b + n)).2) from hsg]; exact tk_c hok.1 hok.2.2)) (congrArg Value.int (by rw [show va_up A 60 s 52 (400 * t + (b + n)) = nI ((ts (b + n)).1 + 16 * (ts (b + n)).2) from hsg]; exact tk_v hok.1 hok.2.2)) rfl rfl rfl rfl ?_
    refine Rn.step (pc' := 51) rfl rfl ?_
    refine Rn.ifc_ne (pc1 := 64) (pc2 := 54) rfl rfl rfl (fun h51 => ?_) (fun h51 => ?_)
    · refine Rn.step (pc' := 66) rfl rfl ?_
      refine Rn.iconst (v := 1) (pc' := 67) rfl (by decide) rfl ?_
      refine Rn.icmp_ne (pc1 := 84) (pc2 := 70) rfl rfl rfl (fun h67 => ?_) (fun h67 => ?_)
      · refine Rn.step (pc' := 86) rfl rfl ?_
        refine Rn.iconst (v := 11) (pc' := 88) rfl (by decide) rfl ?_
        refine Rn.icmp_ne (pc1 := 104) (pc2 := 91) rfl rfl rfl (fun h88 => ?_) (fun h88 => ?_)
        · have hcb : 2 ≤ (ts (b + n)).1 ∧ (ts (b + n)).1 < 15 ∧ (ts (b + n)).1 ≠ 11 := by
            have h0 : (ts (b + n)).1 ≠ 0 := fun z => h51 (congrArg nI z)
            have h1 : (ts (b + n)).1 ≠ 1 := fun z => h67 (congrArg nI z)
            have h2 : (ts (b + n)).1 ≠ 11 := fun z => h88 (congrArg nI z)
            have := hok.1
            omega
          obtain ⟨y, x, st, hst⟩ : ∃ y x st, stk (LA 59) ts b n = y :: x :: st := by
            unfold tkd at hd2
            rw [if_neg (by omega), if_neg (by omega)] at hd2
            split at hd2
            · rename_i h2
              match hstk : stk (LA 59) ts b n, hlen with
              | [], hl => simp at hl; omega
              | [_], hl => simp at hl; omega
              | y :: x :: st, _ => exact ⟨y, x, st, rfl⟩
            · cases hd2
          rw [hst] at hlen hs
          obtain rfl : k = st.length + 1 + 1 := by simpa using hlen.symm
          refine Rn.step (pc' := 105) rfl rfl ?_
          refine Rn.vg (pc' := 108) rfl (by decide) (by omega) rfl rfl rfl (c_M_pop (n := st.length + 1) (by omega)) ?_
          refine Rn.step (pc' := 110) rfl rfl ?_
          refine Rn.step (pc' := 111) rfl rfl ?_
          refine Rn.vg (pc' := 114) rfl (by decide) (by omega) rfl rfl rfl (c_M_pop (n := st.length) (by omega)) ?_
          refine Rn.step (pc' := 116) rfl rfl ?_
          refine Rn.step (pc' := 117) rfl rfl ?_
          refine Rn.step (pc' := 119) rfl rfl ?_
          refine Rn.step (pc' := 121) rfl rfl ?_
          refine Rn.step (pc' := 123) rfl rfl ?_
          refine Rn.sg (pc' := 126) rfl (by decide) (by omega) rfl rfl (c_M_one _ hcb _ _) ?_
          refine Rn.vv (pc' := 129) rfl (by decide) (by omega) rfl rfl rfl (c_M_push (n := st.length) _ (by omega)) ?_
          refine Rn.step (pc' := 132) rfl rfl ?_
          refine Rn.step (pc' := 8) rfl rfl ?_
          refine Rn.ls11 rfl rfl rfl rfl (congrArg Value.int (nI_i1 (b + n))) rfl rfl rfl rfl rfl rfl (l_M_reckons hts ht he hdp hd (n + 1) (st.length + 1) _ _ _ _ _ _ _ (by omega) (by rw [hk2]; refine congrArg some ?_; rw [← hlen2, stk, hst, tkx, if_neg (by omega), if_neg (by omega), if_neg hcb.2.2]; rfl) ?_)
          rw [stk, hst, tkx, if_neg (by omega), if_neg (by omega), if_neg hcb.2.2]
          have e1 := hs.top
          have e2 := hs.pop.top
          rw [List.length_cons] at e1
          rw [e1, e2]
          exact hs.pop.pop.push
        · have hc11 : (ts (b + n)).1 = 11 := (nI_eq (b := 11) (by have := hok.1; omega) (by decide)).mp h88
          obtain ⟨z, st, hst⟩ : ∃ z st, stk (LA 59) ts b n = z :: st := by
            unfold tkd at hd2
            rw [if_neg (by omega), if_pos hc11] at hd2
            split at hd2
            · cases hstk : stk (LA 59) ts b n with
              | nil => rw [hstk] at hlen; simp at hlen; omega
              | cons z st => exact ⟨z, st, rfl⟩
            · cases hd2
          rw [hst] at hlen hs
          obtain rfl : k = st.length + 1 := by simpa using hlen.symm
          refine Rn.step (pc' := 92) rfl rfl ?_
          refine Rn.ldc2 (v := 1) (pc' := 93) rfl (by decide) rfl ?_
          refine Rn.step (pc' := 94) rfl rfl ?_
          refine Rn.vg (pc' := 97) rfl (by decide) (by omega) rfl rfl rfl (c_M_pop (n := st.length) (by omega)) ?_
          refine Rn.lsub (pc' := 98) rfl rfl ?_
          refine Rn.vv (pc' := 101) rfl (by decide) (by omega) rfl rfl rfl (c_M_push (n := st.length) _ (by omega)) ?_
          refine Rn.step (pc' := 129) rfl rfl ?_
          refine Rn.step (pc' := 132) rfl rfl ?_
          refine Rn.step (pc' := 8) rfl rfl ?_
          refine Rn.ls11 rfl rfl rfl rfl (congrArg Value.int (nI_i1 (b + n))) rfl rfl rfl rfl rfl rfl (l_M_reckons hts ht he hdp hd (n + 1) (st.length + 1) _ _ _ _ _ _ _ (by omega) (by rw [hk2]; refine congrArg some ?_; rw [← hlen2, stk, hst, tkx, if_neg (by omega), if_neg (by omega), if_pos hc11]; rfl) ?_)
          rw [stk, hst, tkx, if_neg (by omega), if_neg (by omega), if_pos hc11]
          rw [hs.top]
          exact hs.pop.push
      · have hc1 : (ts (b + n)).1 = 1 := (nI_eq (b := 1) (by have := hok.1; omega) (by decide)).mp h67
        have hk3 : k < 40 ∧ k2 = k + 1 := by
          unfold tkd at hd2
          rw [if_pos (Or.inr hc1)] at hd2
          split at hd2
          · cases hd2; omega
          · cases hd2
        refine Rn.step (pc' := 71) rfl rfl ?_
        refine Rn.step (pc' := 72) rfl rfl ?_
        refine Rn.getf (pc' := 75) rfl rfl rfl rfl rfl ?_
        refine Rn.step (pc' := 77) rfl rfl ?_
        refine Rn.mlald (k := (ts (b + n)).2) (pc' := 78) rfl rfl (rfl) (hok.2.1 hc1) (by decide) rfl ?_
        refine Rn.vv (pc' := 81) rfl (by decide) (by omega) rfl rfl rfl (c_M_push (n := k) _ (by omega)) ?_
        refine Rn.step (pc' := 129) rfl rfl ?_
        refine Rn.step (pc' := 132) rfl rfl ?_
        refine Rn.step (pc' := 8) rfl rfl ?_
        refine Rn.ls11 rfl rfl rfl rfl (congrArg Value.int (nI_i1 (b + n))) rfl rfl rfl rfl rfl rfl (l_M_reckons hts ht he hdp hd (n + 1) (k + 1) _ _ _ _ _ _ _ (by omega) (by rw [hk2, hk3.2]) ?_)
        rw [stk, tkx.eq_def, if_neg (by omega), if_pos hc1]
        have := hs.push (x := LA 59 (ts (b + n)).2)
        rw [hlen] at this
        exact this
    · have hc0 : (ts (b + n)).1 = 0 := (nI_eq (b := 0) (by have := hok.1; omega) (by decide)).mp h51
      have hk3 : k < 40 ∧ k2 = k + 1 := by
        unfold tkd at hd2
        rw [if_pos (Or.inl hc0)] at hd2
        split at hd2
        · cases hd2; omega
        · cases hd2
      refine Rn.step (pc' := 55) rfl rfl ?_
      refine Rn.step (pc' := 57) rfl rfl ?_
      refine Rn.i2l (pc' := 58) rfl rfl ?_
      refine Rn.vv (pc' := 61) rfl (by decide) (by omega) rfl rfl rfl (c_M_push (n := k) _ (by omega)) ?_
      refine Rn.step (pc' := 129) rfl rfl ?_
      refine Rn.step (pc' := 132) rfl rfl ?_
      refine Rn.step (pc' := 8) rfl rfl ?_
      refine Rn.ls11 rfl rfl rfl rfl (congrArg Value.int (nI_i1 (b + n))) rfl rfl rfl rfl rfl rfl (l_M_reckons hts ht he hdp hd (n + 1) (k + 1) _ _ _ _ _ _ _ (by omega) (by rw [hk2, hk3.2]) ?_)
      rw [stk, tkx.eq_def, if_pos hc0]
      have := hs.push (x := (nI (ts (b + n)).2).toInt64)
      rw [hlen] at this
      exact this
termination_by e - (b + n)
theorem c_M_reckons {d t b e : Nat} {ts : Nat → Nat × Nat} (hts : ∀ i, b ≤ i → i < e → A 52 (400 * t + i) = nI ((ts i).1 + 16 * (ts i).2) ∧ tOk (ts i)) (ht : t < 6) (hbe : b ≤ e) (he : e ≤ 400) (hdp : dpt ts b (e - b) = some 1) (hd : 1 ≤ d) : Cl d j_M_reckons [.ref 50, .int (nI t), .int (nI b), .int (nI e)] (MS m0 v dx A LA s) (fun r m2 => r = some (.long ((stk (LA 59) ts b (e - b)).headD 0)) ∧ ∃ f2, m2 = MT m0 v dx A LA s 0 f2) := by
  show Rn d j_M_reckons 0 _ _ _ _
  refine Rn.step (pc' := 1) rfl rfl ?_
  refine Rn.iconst (v := 0) (pc' := 2) rfl (by decide) rfl ?_
  refine Rn.mput (pc' := 5) rfl rfl rfl rfl (by decide) rfl ?_
  refine Rn.step (pc' := 6) rfl rfl ?_
  refine Rn.step (pc' := 8) rfl rfl ?_
  exact Rn.mm (m2 := MT m0 v dx A LA s 0 (LA 58)) MT_0 (l_M_reckons hts ht he hdp hd 0 0 (LA 58) _ _ _ _ _ _ hbe rfl (fun p x h => by simp [stk] at h))
/-- a rule: its clauses, told by where their sums and tests stand; what it answers -/
abbrev xCl4 : Type := Nat × Nat × Option Nat × Nat
def smb (wd : Nat → Int64) (ts : Nat → Nat × Nat) : List xCl4 → Int64
  | [] => 0
  | q :: r => if q.2.2.1 = none ∨ (stk wd ts (q.2.2.1.getD 0) (q.2.2.2 - q.2.2.1.getD 0)).headD 0 = 1 then (stk wd ts q.1 (q.2.1 - q.1)).headD 0 else smb wd ts r
def ClW (A : Nat → Nat → Int32) (r : Nat) (ts : Nat → Nat × Nat) (N c : Nat) (q : xCl4) : Prop := A 54 (48 * r + 4 * c) = nI q.1 ∧ A 54 (48 * r + 4 * c + 1) = nI q.2.1 ∧ A 54 (48 * r + 4 * c + 2) = eO q.2.2.1 ∧ A 54 (48 * r + 4 * c + 3) = nI q.2.2.2 ∧ q.1 ≤ q.2.1 ∧ q.2.1 ≤ N ∧ dpt ts q.1 (q.2.1 - q.1) = some 1 ∧ ∀ t, q.2.2.1 = some t → t ≤ q.2.2.2 ∧ q.2.2.2 ≤ N ∧ dpt ts t (q.2.2.2 - t) = some 1
/-- the model's arrays hold rule r -/
def RuW (A : Nat → Nat → Int32) (r : Nat) (ts : Nat → Nat × Nat) (N : Nat) (L : List xCl4) : Prop := A 55 r = nI L.length ∧ L.length ≤ 12 ∧ N ≤ 400 ∧ (∀ i, i < N → A 52 (400 * r + i) = nI ((ts i).1 + 16 * (ts i).2) ∧ tOk (ts i)) ∧ ∀ c q, L[c]? = some q → ClW A r ts N c q
theorem l_M_summedBy {d r N : Nat} {ts : Nat → Nat × Nat} {L : List xCl4} (hr : r < 6) (hR : RuW A r ts N L) (hd : 2 ≤ d) (c n : Nat) (f : Nat → Int64) (x : Value) (hc : c ≤ L.length) : Rn d j_M_summedBy 2 [.ref 50, .int (nI r), .int (nI c), x] [] (MT m0 v dx A LA s n f) (fun r m2 => r = some (.long (smb (LA 59) ts (L.drop c))) ∧ ∃ n2 f2, m2 = MT m0 v dx A LA s n2 f2) := by
  obtain ⟨hL, hL12, hN, htk, hcl⟩ := hR
  refine Rn.step (pc' := 3) rfl rfl ?_
  refine Rn.step (pc' := 4) rfl rfl ?_
  refine Rn.getf (pc' := 7) rfl rfl rfl rfl rfl ?_
  refine Rn.step (pc' := 8) rfl rfl ?_
  refine Rn.mald (k := r) (pc' := 9) rfl rfl (rfl) (by omega) (by decide) rfl ?_
  refine Rn.icmp_ge (pc1 := 84) (pc2 := 12) rfl rfl rfl (fun h9 => ?_) (fun h9 => ?_)
  · have hce : c = L.length := by
      have := (nI_leI (a := L.length) (b := c) (by omega) (by omega)).mp (hL ▸ h9)
      omega
    subst hce
    refine Rn.ldc2 (v := 0) (pc' := 85) rfl (by decide) rfl ?_
    exact Rn.lret rfl (⟨by rw [List.drop_length]; rfl, _, _, rfl⟩)
  · have hlt : c < L.length := by
      have := mt (nI_leI (a := L.length) (b := c) (by omega) (by omega)).mpr (hL ▸ h9)
      omega
    obtain ⟨q, hq⟩ : ∃ q, L[c]? = some q := ⟨_, List.getElem?_eq_getElem hlt⟩
    obtain ⟨g1, g2, g3, g4, g5, g6, g7, g8⟩ := hcl c q hq
    have hdr : L.drop c = q :: L.drop (c + 1) := by
      rw [List.drop_eq_getElem_cons hlt]
      rw [List.getElem?_eq_getElem hlt] at hq
      rw [Option.some.inj hq]
    refine Rn.iconst (v := 48) (pc' := 14) rfl (by decide) rfl ?_
    refine Rn.step (pc' := 15) rfl rfl ?_
    refine Rn.imul (pc' := 16) rfl rfl ?_
    refine Rn.iconst (v := 4) (pc' := 17) rfl (by decide) rfl ?_
    refine Rn.step (pc' := 18) rfl rfl ?_
    refine Rn.imul (pc' := 19) rfl rfl ?_
    refine Rn.iadd (pc' := 20) rfl rfl ?_
    refine Rn.step (pc' := 21) rfl rfl ?_
    refine Rn.step (pc' := 22) rfl rfl ?_
    refine Rn.getf (pc' := 25) rfl rfl rfl rfl rfl ?_
    refine Rn.step (pc' := 26) rfl rfl ?_
    refine Rn.iconst (v := 2) (pc' := 27) rfl (by decide) rfl ?_
    refine Rn.iadd (pc' := 28) rfl rfl ?_
    refine Rn.mald (k := 48 * r + 4 * c + 2) (pc' := 29) rfl rfl (by simp only [nI_lit, nI_add, pk_mul]) (by omega) (by decide) rfl ?_
    refine Rn.ifc_lt (pc1 := 58) (pc2 := 32) rfl rfl rfl (fun h29 => ?_) (fun h29 => ?_)
    · have hsm : smb (LA 59) ts (L.drop c) = (stk (LA 59) ts q.1 (q.2.1 - q.1)).headD 0 := by
        rw [hdr, smb, if_pos]
        left
        cases hqt : q.2.2.1 with
        | none => rfl
        | some t =>
          have h9 : eO q.2.2.1 < 0 := by rw [← g3]; exact h29
          rw [hqt] at h9
          obtain ⟨k1, k2, -⟩ := g8 t hqt
          exact absurd h9 (nI_pos (by omega))
      refine Rn.step (pc' := 59) rfl rfl ?_
      refine Rn.step (pc' := 60) rfl rfl ?_
      refine Rn.step (pc' := 61) rfl rfl ?_
      refine Rn.getf (pc' := 64) rfl rfl rfl rfl rfl ?_
      refine Rn.step (pc' := 65) rfl rfl ?_
      refine Rn.mald (k := 48 * r + 4 * c) (pc' := 66) rfl rfl (by simp only [nI_lit, nI_add, pk_mul]) (by omega) (by decide) rfl ?_
      refine Rn.step (pc' := 67) rfl rfl ?_
      refine Rn.getf (pc' := 70) rfl rfl rfl rfl rfl ?_
      refine Rn.step (pc' := 71) rfl rfl ?_
      refine Rn.iconst (v := 1) (pc' := 72) rfl (by decide) rfl ?_
      refine Rn.iadd (pc' := 73) rfl rfl ?_
      refine Rn.mald (k := 48 * r + 4 * c + 1) (pc' := 74) rfl rfl (by simp only [nI_lit, nI_add, pk_mul]) (by omega) (by decide) rfl ?_
      refine Rn.callV (pc' := 77) rfl (by decide) (by omega) rfl rfl rfl ((by
          rw [show va_up A 60 s 54 (48 * r + 4 * c) = nI q.1 from g1, show va_up A 60 s 54 (48 * r + 4 * c + 1) = nI q.2.1 from g2]
          exact c_M_reckons (b := q.1) (e := q.2.1) (ts := ts) (fun i _ hi => htk i (by omega)) hr g5 (by omega) g7 (by omega))) (fun r_ m_ hc_ => ?_)
      obtain ⟨rfl, f3, rfl⟩ := hc_
      exact Rn.lret rfl (⟨by rw [hsm]; rfl, 0, f3, by simp only [MT_MT]⟩)
    · obtain ⟨t, ht⟩ := eO_neg (fun z => h29 (by rw [show va_up A 60 s 54 (48 * r + 4 * c + 2) = eO q.2.2.1 from g3]; exact z))
      obtain ⟨g9, g10, g11⟩ := g8 t ht
      refine Rn.step (pc' := 33) rfl rfl ?_
      refine Rn.step (pc' := 34) rfl rfl ?_
      refine Rn.step (pc' := 35) rfl rfl ?_
      refine Rn.getf (pc' := 38) rfl rfl rfl rfl rfl ?_
      refine Rn.step (pc' := 39) rfl rfl ?_
      refine Rn.iconst (v := 2) (pc' := 40) rfl (by decide) rfl ?_
      refine Rn.iadd (pc' := 41) rfl rfl ?_
      refine Rn.mald (k := 48 * r + 4 * c + 2) (pc' := 42) rfl rfl (by simp only [nI_lit, nI_add, pk_mul]) (by omega) (by decide) rfl ?_
      refine Rn.step (pc' := 43) rfl rfl ?_
      refine Rn.getf (pc' := 46) rfl rfl rfl rfl rfl ?_
      refine Rn.step (pc' := 47) rfl rfl ?_
      refine Rn.iconst (v := 3) (pc' := 48) rfl (by decide) rfl ?_
      refine Rn.iadd (pc' := 49) rfl rfl ?_
      refine Rn.mald (k := 48 * r + 4 * c + 3) (pc' := 50) rfl rfl (by simp only [nI_lit, nI_add, pk_mul]) (by omega) (by decide) rfl ?_
      refine Rn.callV (pc' := 53) rfl (by decide) (by omega) rfl rfl rfl ((by
          rw [show va_up A 60 s 54 (48 * r + 4 * c + 2) = nI t from g3.trans (by rw [ht]; rfl), show va_up A 60 s 54 (48 * r + 4 * c + 3) = nI q.2.2.2 from g4]
          exact c_M_reckons (b := t) (e := q.2.2.2) (ts := ts) (fun i _ hi => htk i (by omega)) hr g9 (by omega) g11 (by omega))) (fun r_ m_ hc_ => ?_)
      obtain ⟨rfl, f2, rfl⟩ := hc_
      refine Rn.ldc2 (v := 1) (pc' := 54) rfl (by decide) rfl ?_
      refine Rn.lcmp (pc' := 55) rfl rfl ?_
      refine Rn.ifc_ne (pc1 := 78) (pc2 := 58) rfl rfl rfl (fun h55 => ?_) (fun h55 => ?_)
      · refine Rn.step (pc' := 81) rfl rfl ?_
        refine Rn.step (pc' := 2) rfl rfl ?_
        have hsm : smb (LA 59) ts (L.drop c) = smb (LA 59) ts (L.drop (c + 1)) := by
          rw [hdr, smb, if_neg]
          rintro (z | z)
          · rw [ht] at z; cases z
          · rw [ht] at z; exact h55 ((lg_cmp_eq _ _).mpr z)
        rw [hsm]
        exact Rn.mm (m2 := MT m0 v dx A LA s 0 f2) MT_MT (Rn.ls4 rfl rfl (congrArg Value.int (nI_i1 c)) rfl (l_M_summedBy hr ⟨hL, hL12, hN, htk, hcl⟩ hd (c + 1) _ _ _ (by omega)))
      · have hsm : smb (LA 59) ts (L.drop c) = (stk (LA 59) ts q.1 (q.2.1 - q.1)).headD 0 := by
          rw [hdr, smb, if_pos]
          right
          rw [ht]
          exact (lg_cmp_eq _ _).mp h55
        refine Rn.step (pc' := 59) rfl rfl ?_
        refine Rn.step (pc' := 60) rfl rfl ?_
        refine Rn.step (pc' := 61) rfl rfl ?_
        refine Rn.getf (pc' := 64) rfl rfl rfl rfl rfl ?_
        refine Rn.step (pc' := 65) rfl rfl ?_
        refine Rn.mald (k := 48 * r + 4 * c) (pc' := 66) rfl rfl (by simp only [nI_lit, nI_add, pk_mul]) (by omega) (by decide) rfl ?_
        refine Rn.step (pc' := 67) rfl rfl ?_
        refine Rn.getf (pc' := 70) rfl rfl rfl rfl rfl ?_
        refine Rn.step (pc' := 71) rfl rfl ?_
        refine Rn.iconst (v := 1) (pc' := 72) rfl (by decide) rfl ?_
        refine Rn.iadd (pc' := 73) rfl rfl ?_
        refine Rn.mald (k := 48 * r + 4 * c + 1) (pc' := 74) rfl rfl (by simp only [nI_lit, nI_add, pk_mul]) (by omega) (by decide) rfl ?_
        refine Rn.callV (pc' := 77) rfl (by decide) (by omega) rfl rfl rfl ((by
            rw [show va_up A 60 s 54 (48 * r + 4 * c) = nI q.1 from g1, show va_up A 60 s 54 (48 * r + 4 * c + 1) = nI q.2.1 from g2]
            exact c_M_reckons (b := q.1) (e := q.2.1) (ts := ts) (fun i _ hi => htk i (by omega)) hr g5 (by omega) g7 (by omega))) (fun r_ m_ hc_ => ?_)
        obtain ⟨rfl, f3, rfl⟩ := hc_
        exact Rn.lret rfl (⟨by rw [hsm]; rfl, 0, f3, by simp only [MT_MT]⟩)
termination_by L.length - c
theorem c_M_summedBy {d r N : Nat} {ts : Nat → Nat × Nat} {L : List xCl4} (hr : r < 6) (hR : RuW A r ts N L) (hd : 2 ≤ d) (n : Nat) (f : Nat → Int64) : Cl d j_M_summedBy [.ref 50, .int (nI r)] (MT m0 v dx A LA s n f) (fun r m2 => r = some (.long (smb (LA 59) ts L)) ∧ ∃ n2 f2, m2 = MT m0 v dx A LA s n2 f2) := by
  show Rn d j_M_summedBy 0 _ _ _ _
  refine Rn.iconst (v := 0) (pc' := 1) rfl (by decide) rfl ?_
  refine Rn.step (pc' := 2) rfl rfl ?_
  exact l_M_summedBy hr hR hd 0 n f _ (Nat.zero_le _)
end MR
