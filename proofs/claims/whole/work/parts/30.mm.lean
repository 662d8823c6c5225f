/-! THE MODEL'S MEMORY: its object is cell 50, its arrays are the cells 51 to 68; v: its int fields by slot, dx: drawX, A: its arrays of ints (bytes, booleans) by cell, LA: of longs. -/
def mobj (v : Nat → Int32) (dx : Int64) : List Value := [.ref 51, .int (v 1), .int (v 2), .ref 52, .ref 53, .ref 54, .ref 55, .ref 56, .int (v 8), .int (v 9), .int (v 10), .int (v 11), .int (v 12), .int (v 13), .int (v 14), .ref 57, .int (v 16), .ref 58, .int (v 18), .ref 59, .ref 60, .int (v 21), .int (v 22), .int (v 23), .int (v 24), .int (v 25), .ref 61, .int (v 27), .ref 62, .int (v 29), .int (v 30), .int (v 31), .int (v 32), .ref 63, .ref 64, .long dx, .ref 65, .ref 66, .ref 67, .ref 68]
/-- kind and length of the model's arrays of ints, bytes, booleans -/
def mI : Nat → Option (Nat × Nat)
  | 51 => some (1, 400)
  | 52 => some (0, 2400)
  | 53 => some (0, 7)
  | 54 => some (0, 288)
  | 55 => some (0, 6)
  | 56 => some (0, 110)
  | 57 => some (0, 400)
  | 60 => some (0, 151)
  | 61 => some (0, 1040)
  | 62 => some (0, 52)
  | 63 => some (0, 70)
  | 64 => some (0, 31)
  | 65 => some (0, 604)
  | 66 => some (0, 4)
  | 67 => some (0, 4)
  | 68 => some (3, 4)
  | _ => none
def mL : Nat → Option Nat
  | 58 => some 64
  | 59 => some 15
  | _ => none
def mcell (v : Nat → Int32) (dx : Int64) (A : Nat → Nat → Int32) (LA : Nat → Nat → Int64) (k : Nat) : Option xC := match mI k with
  | some q => some (.inl (q.1, q.2, xints (A k)))
  | none => match mL k with
    | some n => some (.inl (2, n, xlongs (LA k)))
    | none => if k = 50 then some (.inr (12, mobj v dx)) else none
/-- the memory m0 with the model's part as told -/
def MM (m0 : xM) (v : Nat → Int32) (dx : Int64) (A : Nat → Nat → Int32) (LA : Nat → Nat → Int64) : xM := (m0.1, m0.2.1, fun k => if 50 ≤ k ∧ k < 69 then mcell v dx A LA k else m0.2.2 k)
theorem nI_lit (n : Nat) : (OfNat.ofNat n : Int32) = nI n := rfl
theorem mI_in {a : Nat} {q : Nat × Nat} (h : mI a = some q) : 50 ≤ a ∧ a < 69 ∧ a ≠ 50 ∧ mL a = none := by
  unfold mI at h
  split at h <;> first | (cases h; done) | (exact ⟨by decide, by decide, by decide, rfl⟩)
theorem mL_in {a n : Nat} (h : mL a = some n) : 50 ≤ a ∧ a < 69 ∧ a ≠ 50 ∧ mI a = none := by
  unfold mL at h
  split at h <;> first | (cases h; done) | (exact ⟨by decide, by decide, by decide, rfl⟩)
section MMR
variable {m0 : xM} {v : Nat → Int32} {dx : Int64} {A : Nat → Nat → Int32} {LA : Nat → Nat → Int64}
theorem MM_I {a : Nat} {q : Nat × Nat} (h : mI a = some q) : (MM m0 v dx A LA).2.2 a = some (.inl (q.1, q.2, xints (A a))) := by
  obtain ⟨h1, h2, -, -⟩ := mI_in h
  simp only [MM, if_pos (And.intro h1 h2), mcell, h]
theorem MM_L {a n : Nat} (h : mL a = some n) : (MM m0 v dx A LA).2.2 a = some (.inl (2, n, xlongs (LA a))) := by
  obtain ⟨h1, h2, -, h3⟩ := mL_in h
  simp only [MM, if_pos (And.intro h1 h2), mcell, h, h3]
theorem MM_setI {a : Nat} {q : Nat × Nat} (h : mI a = some q) (f : Nat → Int32) : xset (MM m0 v dx A LA) a (.inl (q.1, q.2, xints f)) = MM m0 v dx (va_up A a f) LA := by
  obtain ⟨h1, h2, h3, h4⟩ := mI_in h
  simp only [xset, MM]
  congr 2
  funext k
  by_cases hk : k = a
  · subst hk
    simp only [va_up, if_true, if_pos (And.intro h1 h2), mcell, h]
  · simp only [va_up, if_neg hk, mcell]
theorem MM_setL {a n : Nat} (h : mL a = some n) (f : Nat → Int64) : xset (MM m0 v dx A LA) a (.inl (2, n, xlongs f)) = MM m0 v dx A (va_up LA a f) := by
  obtain ⟨h1, h2, h3, h4⟩ := mL_in h
  simp only [xset, MM]
  congr 2
  funext k
  by_cases hk : k = a
  · subst hk
    simp only [va_up, if_true, if_pos (And.intro h1 h2), mcell, h, h4]
  · simp only [va_up, if_neg hk, mcell]
theorem MM_setO (v' : Nat → Int32) (dx' : Int64) : xset (MM m0 v dx A LA) 50 (.inr (12, mobj v' dx')) = MM m0 v' dx' A LA := by
  simp only [xset, MM]
  congr 2
  funext k
  by_cases hk : k = 50
  · subst hk
    rfl
  · by_cases h2 : 50 ≤ k ∧ k < 69
    · simp only [va_up, if_neg hk, if_pos h2, mcell]
    · simp only [va_up, if_neg hk, if_neg h2]
variable {d j pc len pc' : Nat} {ls st : List Value} {P : Option Value → xM → Prop}
theorem Rn.mald {a n k : Nat} {i : Int32} (hG : xG j pc = some (.iaload, len)) (ha : mI a = some (0, n)) (hi : i = nI k) (hk : k < n) (hn : n < 2147483648) (hp : pc + len = pc') (kk : Rn d j pc' ls (.int (A a k) :: st) (MM m0 v dx A LA) P) : Rn d j pc ls (.int i :: .ref a :: st) (MM m0 v dx A LA) P := by
  subst hi
  refine Rn.iald hG (MM_I ha) (vp_in_nI hk hn) hp ?_
  rw [nI_clamp (by omega)]
  exact kk
theorem Rn.mbald {a n k t : Nat} {i : Int32} (hG : xG j pc = some (.baload, len)) (ha : mI a = some (t, n)) (ht : t = 1 ∨ t = 3) (hi : i = nI k) (hk : k < n) (hn : n < 2147483648) (hp : pc + len = pc') (kk : Rn d j pc' ls (.int (A a k) :: st) (MM m0 v dx A LA) P) : Rn d j pc ls (.int i :: .ref a :: st) (MM m0 v dx A LA) P := by
  subst hi
  refine Rn.bald hG ht (MM_I ha) (vp_in_nI hk hn) hp ?_
  rw [nI_clamp (by omega)]
  exact kk
theorem Rn.mast {a n k : Nat} {i x : Int32} (hG : xG j pc = some (.iastore, len)) (ha : mI a = some (0, n)) (hi : i = nI k) (hk : k < n) (hn : n < 2147483648) (hp : pc + len = pc') (kk : Rn d j pc' ls st (MM m0 v dx (va_up A a (upd (A a) k x)) LA) P) : Rn d j pc ls (.int x :: .int i :: .ref a :: st) (MM m0 v dx A LA) P := by
  subst hi
  obtain ⟨h1, h2, -, -⟩ := mI_in ha
  refine Rn.iast hG (by unfold xS; omega) (MM_I ha) (vp_in_nI hk hn) hp ?_
  rw [nI_clamp (by omega)]
  have := MM_setI (m0 := m0) (v := v) (dx := dx) (A := A) (LA := LA) ha (upd (A a) k x)
  dsimp only at this
  rw [this]
  exact kk
theorem Rn.mput {q : Nat} {x : Int32} (hG : xG j pc = some (.putfield q, len)) (hq : q / 64 = 12) (hty : (xfty 12)[q % 64]? = some .int) (hs : (mobj v dx).set (q % 64) (.int x) = mobj (upd v (q % 64) x) dx) (hl : q % 64 < 40) (hp : pc + len = pc') (kk : Rn d j pc' ls st (MM m0 (upd v (q % 64) x) dx A LA) P) : Rn d j pc ls (.int x :: .ref 50 :: st) (MM m0 v dx A LA) P := by
  refine Rn.putf (ci := 12) (fs := mobj v dx) hG (by decide) rfl ⟨hq.symm, hl⟩ hty ⟨rfl, rfl⟩ hp ?_
  rw [hs, MM_setO]
  exact kk
theorem up_up {α : Type} (A : Nat → α) (k : Nat) (x y : α) : va_up (va_up A k x) k y = va_up A k y := by
  funext j
  by_cases h : j = k <;> simp [va_up, h]
theorem up_id {α : Type} (A : Nat → α) (k : Nat) : va_up A k (A k) = A := by
  funext j
  by_cases h : j = k
  · subst h; simp [va_up]
  · simp [va_up, h]
/-- the model's memory, 'said' told apart -/
abbrev MS (m0 : xM) (v : Nat → Int32) (dx : Int64) (A : Nat → Nat → Int32) (LA : Nat → Nat → Int64) (s : Nat → Int32) : xM := MM m0 v dx (va_up A 60 s) LA
variable {s : Nat → Int32}
theorem Rn.sald {n k : Nat} {i : Int32} (hG : xG j pc = some (.iaload, len)) (ha : mI 60 = some (0, n)) (hi : i = nI k) (hk : k < 151) (hn : (151 : Nat) < 2147483648) (hp : pc + len = pc') (kk : Rn d j pc' ls (.int (s k) :: st) (MS m0 v dx A LA s) P) : Rn d j pc ls (.int i :: .ref 60 :: st) (MS m0 v dx A LA s) P := by
  refine Rn.mald (a := 60) (n := 151) (k := k) hG rfl hi hk hn hp ?_
  rw [show va_up A 60 s 60 = s from va_up_self A 60 s]
  exact kk
theorem Rn.sast {n k : Nat} {i x : Int32} (hG : xG j pc = some (.iastore, len)) (ha : mI 60 = some (0, n)) (hi : i = nI k) (hk : k < 151) (hn : (151 : Nat) < 2147483648) (hp : pc + len = pc') (kk : Rn d j pc' ls st (MS m0 v dx A LA (upd s k x)) P) : Rn d j pc ls (.int x :: .int i :: .ref 60 :: st) (MS m0 v dx A LA s) P := by
  refine Rn.mast (a := 60) (n := 151) (k := k) hG rfl hi hk hn hp ?_
  rw [show va_up A 60 s 60 = s from va_up_self A 60 s, up_up]
  exact kk
end MMR
