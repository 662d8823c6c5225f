/-! THE CLASS'S MEMORY: its objects and arrays are the cells 0 to 49; F: the int fields of an object by cell and slot, I: the arrays of ints and bytes by cell, L: of longs, R: the rules (cell 6) and images (7), H: the rule of the hours. A world is a cell o and its row o + 1. -/
section CC0

def cInt : Nat → Option (Nat × Nat)
  | 2 => some (1, 400)
  | 4 => some (0, 400)
  | 5 => some (0, 24)
  | 9 => some (0, 33)
  | 11 => some (0, 660)
  | 13 => some (0, 40)
  | 18 => some (0, 10)
  | 19 => some (0, 6)
  | 20 => some (0, 6)
  | 21 => some (0, 8)
  | 22 => some (0, 40)
  | 23 => some (0, 4)
  | 26 => some (0, 33)
  | 27 => some (0, 40)
  | 28 => some (0, 31)
  | 31 => some (0, 4)
  | 32 => some (0, 4)
  | 34 => some (0, 33)
  | 36 => some (0, 33)
  | 38 => some (0, 33)
  | 40 => some (0, 33)
  | 42 => some (0, 33)
  | 44 => some (0, 10)
  | 45 => some (0, 6)
  | 46 => some (0, 6)
  | 47 => some (0, 8)
  | 48 => some (0, 40)
  | 49 => some (0, 4)
  | _ => none
def cLng : Nat → Option Nat
  | 15 => some 15
  | 16 => some 40
  | _ => none
def cRef : Nat → Option (Nat × Nat)
  | 6 => some (4, 6)
  | 7 => some (5, 4)
  | 30 => some (6, 5)
  | _ => none
def cobj (f : Nat → Int32) (H : Value) : Nat → Option (Nat × List Value)
  | 0 => some (11, [.ref 1, .ref 3, .ref 6, .ref 7, .ref 8, .ref 10, .ref 12, .ref 14, .ref 24, .ref 29, .ref 17, .ref 43, .int (f 12), .int (f 13), .int (f 14)])
  | 1 => some (8, [.ref 2, .int (f 1), .int (f 2), .int (f 3), .int (f 4), .int (f 5), .int (f 6)])
  | 3 => some (7, [.ref 4, .ref 5, .int (f 2), .int (f 3), .int (f 4)])
  | 8 => some (10, [.ref 9])
  | 10 => some (3, [.ref 11, .int (f 1), .int (f 2)])
  | 12 => some (4, [.ref 13, .int (f 1)])
  | 14 => some (0, [.ref 15, .ref 16, .ref 17, H, .int (f 4), .int (f 5)])
  | 17 => some (2, [.ref 18, .ref 19, .ref 20, .ref 21, .ref 22, .ref 23, .int (f 6), .int (f 7), .int (f 8), .int (f 9), .int (f 10), .int (f 11), .int (f 12)])
  | 24 => some (9, [.ref 25, .ref 27, .ref 28, .int (f 3), .int (f 4)])
  | 25 => some (10, [.ref 26])
  | 29 => some (5, [.ref 30, .ref 31, .int (f 2), .int (f 3), .ref 32, .int (f 5)])
  | 33 => some (10, [.ref 34])
  | 35 => some (10, [.ref 36])
  | 37 => some (10, [.ref 38])
  | 39 => some (10, [.ref 40])
  | 41 => some (10, [.ref 42])
  | 43 => some (2, [.ref 44, .ref 45, .ref 46, .ref 47, .ref 48, .ref 49, .int (f 6), .int (f 7), .int (f 8), .int (f 9), .int (f 10), .int (f 11), .int (f 12)])
  | _ => none
def c30 (R : Nat → Nat → Option Nat) (k : Nat) : Nat → Option Nat := if k = 30 then fun i => if i < 5 then some (33 + 2 * i) else none else R k
def ccell (F I : Nat → Nat → Int32) (L : Nat → Nat → Int64) (R : Nat → Nat → Option Nat) (H : Value) (k : Nat) : Option xC := match cInt k with
  | some q => some (.inl (q.1, q.2, xints (I k)))
  | none => match cLng k with
    | some n => some (.inl (2, n, xlongs (L k)))
    | none => match cRef k with
      | some q => some (.inl (q.1, q.2, xrefs (c30 R k)))
      | none => match cobj (F k) H k with
        | some q => some (.inr q)
        | none => none
/-- the memory m0 with the class's part as told -/
def CC (m0 : xM) (F I : Nat → Nat → Int32) (L : Nat → Nat → Int64) (R : Nat → Nat → Option Nat) (H : Value) : xM := (m0.1, m0.2.1, fun k => if k < 50 then ccell F I L R H k else m0.2.2 k)
theorem cInt_in {a : Nat} {q : Nat × Nat} (h : cInt a = some q) : a < 50 := by
  unfold cInt at h
  split at h <;> first | (cases h; done) | decide
theorem cLng_in {a n : Nat} (h : cLng a = some n) : a < 50 ∧ cInt a = none := by
  unfold cLng at h
  split at h <;> first | (cases h; done) | exact ⟨by decide, rfl⟩
theorem cRef_in {a : Nat} {q : Nat × Nat} (h : cRef a = some q) : a < 50 ∧ cInt a = none ∧ cLng a = none := by
  unfold cRef at h
  split at h <;> first | (cases h; done) | exact ⟨by decide, rfl, rfl⟩
theorem cobj_in {a : Nat} {f : Nat → Int32} {H : Value} {q : Nat × List Value} (h : cobj f H a = some q) : a < 50 ∧ cInt a = none ∧ cLng a = none ∧ cRef a = none := by
  unfold cobj at h
  split at h <;> first | (cases h; done) | exact ⟨by decide, rfl, rfl, rfl⟩
section CCR
variable {m0 : xM} {F I : Nat → Nat → Int32} {L : Nat → Nat → Int64} {R : Nat → Nat → Option Nat} {H : Value}
theorem CC_I {a : Nat} {q : Nat × Nat} (h : cInt a = some q) : (CC m0 F I L R H).2.2 a = some (.inl (q.1, q.2, xints (I a))) := by
  simp only [CC, if_pos (cInt_in h), ccell, h]
theorem CC_L {a n : Nat} (h : cLng a = some n) : (CC m0 F I L R H).2.2 a = some (.inl (2, n, xlongs (L a))) := by
  obtain ⟨h1, h2⟩ := cLng_in h
  simp only [CC, if_pos h1, ccell, h2, h]
theorem CC_R {a : Nat} {q : Nat × Nat} (h : cRef a = some q) : (CC m0 F I L R H).2.2 a = some (.inl (q.1, q.2, xrefs (c30 R a))) := by
  obtain ⟨h1, h2, h3⟩ := cRef_in h
  simp only [CC, if_pos h1, ccell, h2, h3, h]
theorem CC_O {a : Nat} {q : Nat × List Value} (h : cobj (F a) H a = some q) : (CC m0 F I L R H).2.2 a = some (.inr q) := by
  obtain ⟨h1, h2, h3, h4⟩ := cobj_in h
  simp only [CC, if_pos h1, ccell, h2, h3, h4, h]
theorem CC_out {a : Nat} (h : 50 ≤ a) : (CC m0 F I L R H).2.2 a = m0.2.2 a := by
  simp only [CC, if_neg (Nat.not_lt.mpr h)]
theorem CC_setI {a : Nat} {q : Nat × Nat} (h : cInt a = some q) (f : Nat → Int32) : xset (CC m0 F I L R H) a (.inl (q.1, q.2, xints f)) = CC m0 F (va_up I a f) L R H := by
  have h1 := cInt_in h
  simp only [xset, CC]
  congr 2
  funext k
  by_cases hk : k = a
  · subst hk
    simp only [va_up, if_true, if_pos h1, ccell, h]
  · simp only [va_up, if_neg hk, ccell]
theorem CC_setL {a n : Nat} (h : cLng a = some n) (f : Nat → Int64) : xset (CC m0 F I L R H) a (.inl (2, n, xlongs f)) = CC m0 F I (va_up L a f) R H := by
  obtain ⟨h1, h2⟩ := cLng_in h
  simp only [xset, CC]
  congr 2
  funext k
  by_cases hk : k = a
  · subst hk
    simp only [va_up, if_true, if_pos h1, ccell, h, h2]
  · simp only [va_up, if_neg hk, ccell]
theorem CC_setR {a : Nat} {q : Nat × Nat} (h : cRef a = some q) (h30 : a ≠ 30) (f : Nat → Option Nat) : xset (CC m0 F I L R H) a (.inl (q.1, q.2, xrefs f)) = CC m0 F I L (va_up R a f) H := by
  obtain ⟨h1, h2, h3⟩ := cRef_in h
  simp only [xset, CC]
  congr 2
  funext k
  by_cases hk : k = a
  · subst hk
    simp only [va_up, if_true, if_pos h1, ccell, h, h2, h3, c30, if_neg h30]
  · simp only [va_up, if_neg hk, ccell, c30]
theorem CC_setO {o : Nat} {f : Nat → Int32} {q : Nat × List Value} (h : cobj f H o = some q) : xset (CC m0 F I L R H) o (.inr q) = CC m0 (va_up F o f) I L R H := by
  obtain ⟨h1, h2, h3, h4⟩ := cobj_in h
  simp only [xset, CC]
  congr 2
  funext k
  by_cases hk : k = o
  · subst hk
    simp only [va_up, if_true, if_pos h1, ccell, h, h2, h3, h4]
  · simp only [va_up, if_neg hk, ccell]
theorem CC_setH (H' : Value) : xset (CC m0 F I L R H) 14 (.inr (0, [.ref 15, .ref 16, .ref 17, H', .int (F 14 4), .int (F 14 5)])) = CC m0 F I L R H' := by
  simp only [xset, CC]
  congr 2
  funext k
  by_cases hk : k = 14
  · subst hk
    rfl
  · by_cases h2 : k < 50
    · simp only [va_up, if_neg hk, if_pos h2, ccell]
      have hc : ∀ f, cobj f H k = cobj f H' k := fun f => by
        unfold cobj
        split <;> first | rfl | exact absurd rfl hk
      rw [hc]
    · simp only [va_up, if_neg hk, if_neg h2]
/-- which cells are worlds -/
def isW (o : Nat) : Prop := o = 8 ∨ o = 25 ∨ o = 33 ∨ o = 35 ∨ o = 37 ∨ o = 39 ∨ o = 41
theorem isW_o {o : Nat} (h : isW o) (f : Nat → Int32) (H : Value) : cobj f H o = some (10, [.ref (o + 1)]) := by
  rcases h with rfl | rfl | rfl | rfl | rfl | rfl | rfl <;> rfl
theorem isW_i {o : Nat} (h : isW o) : cInt (o + 1) = some (0, 33) := by
  rcases h with rfl | rfl | rfl | rfl | rfl | rfl | rfl <;> rfl
theorem rcvW {o j : Nat} {as : List Value} (h : isW o) (hj : xrc j = 10) : x_rcv xrc j (CC m0 F I L R H) (.ref o :: as) = true := by
  unfold x_rcv
  simp only [CC_O (isW_o h (F o) H), hj]
  rfl
variable {d j pc len pc' : Nat} {ls st : List Value} {P : Option Value → xM → Prop}
theorem Rn.alen {m : xM} {a t : Nat} {x : vp_A} (hG : xG j pc = some (.arraylength, len)) (ha : m.2.2 a = some (.inl (t, x))) (ht : t < 7) (hp : pc + len = pc') (kk : Rn d j pc' ls (.int (nI x.1) :: st) m P) : Rn d j pc ls (.ref a :: st) m P := by
  subst hp
  exact Rn.step hG (by simp only [xs, x_alen, ha, if_pos ht]; rfl) kk
theorem Rn.ifnonnull_ref {m : xM} {a : Nat} {t : Int} (hG : xG j pc = some (.ifnonnull t, len)) (ha : a < xS) (hp : t.toNat = pc') (kk : Rn d j pc' ls st m P) : Rn d j pc ls (.ref a :: st) m P := by
  subst hp
  exact Rn.step hG (by simp only [xs, if_pos ha]) kk
theorem Rn.ifnonnull_null {m : xM} {t : Int} (hG : xG j pc = some (.ifnonnull t, len)) (hp : pc + len = pc') (kk : Rn d j pc' ls st m P) : Rn d j pc ls (.null :: st) m P := by
  subst hp
  exact Rn.step hG rfl kk
theorem Rn.cgw {o : Nat} (hG : xG j pc = some (.getfield 640, len)) (ho : isW o) (hp : pc + len = pc') (kk : Rn d j pc' ls (.ref (o + 1) :: st) (CC m0 F I L R H) P) : Rn d j pc ls (.ref o :: st) (CC m0 F I L R H) P := Rn.getf hG (CC_O (isW_o ho (F o) H)) rfl rfl hp kk
theorem Rn.cald {a n k : Nat} {i x : Int32} (hG : xG j pc = some (.iaload, len)) (ha : cInt a = some (0, n)) (hi : i = nI k) (hk : k < n) (hv : I a k = x) (hn : n < 2147483648) (hp : pc + len = pc') (kk : Rn d j pc' ls (.int x :: st) (CC m0 F I L R H) P) : Rn d j pc ls (.int i :: .ref a :: st) (CC m0 F I L R H) P := by
  subst hi hv
  refine Rn.iald hG (CC_I ha) (vp_in_nI hk hn) hp ?_
  rw [nI_clamp (by omega)]
  exact kk
theorem Rn.cbald {a n k : Nat} {i x : Int32} (hG : xG j pc = some (.baload, len)) (ha : cInt a = some (1, n)) (hi : i = nI k) (hk : k < n) (hv : I a k = x) (hn : n < 2147483648) (hp : pc + len = pc') (kk : Rn d j pc' ls (.int x :: st) (CC m0 F I L R H) P) : Rn d j pc ls (.int i :: .ref a :: st) (CC m0 F I L R H) P := by
  subst hi hv
  refine Rn.bald hG (Or.inl rfl) (CC_I ha) (vp_in_nI hk hn) hp ?_
  rw [nI_clamp (by omega)]
  exact kk
theorem Rn.cast {a n k : Nat} {i x : Int32} (hG : xG j pc = some (.iastore, len)) (ha : cInt a = some (0, n)) (hi : i = nI k) (hk : k < n) (hn : n < 2147483648) (hp : pc + len = pc') (kk : Rn d j pc' ls st (CC m0 F (va_up I a (upd (I a) k x)) L R H) P) : Rn d j pc ls (.int x :: .int i :: .ref a :: st) (CC m0 F I L R H) P := by
  subst hi
  have h1 := cInt_in ha
  refine Rn.iast hG (by unfold xS; omega) (CC_I ha) (vp_in_nI hk hn) hp ?_
  rw [nI_clamp (by omega)]
  have := CC_setI (m0 := m0) (F := F) (I := I) (L := L) (R := R) (H := H) ha (upd (I a) k x)
  dsimp only at this
  rw [this]
  exact kk
theorem Rn.cbst {a n k : Nat} {i x : Int32} (hG : xG j pc = some (.bastore, len)) (ha : cInt a = some (1, n)) (hi : i = nI k) (hk : k < n) (hn : n < 2147483648) (hp : pc + len = pc') (kk : Rn d j pc' ls st (CC m0 F (va_up I a (upd (I a) k (vp_nar .byte x))) L R H) P) : Rn d j pc ls (.int x :: .int i :: .ref a :: st) (CC m0 F I L R H) P := by
  subst hi hp
  have h1 := cInt_in ha
  have hx : ¬ xout (nI k) n = true := by
    have := vp_in_nI hk hn
    simpa [xout, vp_in] using this
  have hl : a < xS := by unfold xS; omega
  refine Rn.step (m' := _) hG (by simp only [xs, x_bast, if_pos hl, CC_I ha, if_neg hx]; rfl) ?_
  rw [nI_clamp (by omega)]
  have := CC_setI (m0 := m0) (F := F) (I := I) (L := L) (R := R) (H := H) ha (upd (I a) k (vp_nar .byte x))
  dsimp only at this
  rw [this]
  exact kk
theorem Rn.clald {a n k : Nat} {i : Int32} {x : Int64} (hG : xG j pc = some (.laload, len)) (ha : cLng a = some n) (hi : i = nI k) (hk : k < n) (hv : L a k = x) (hn : n < 2147483648) (hp : pc + len = pc') (kk : Rn d j pc' ls (.long x :: st) (CC m0 F I L R H) P) : Rn d j pc ls (.int i :: .ref a :: st) (CC m0 F I L R H) P := by
  subst hi hv
  refine Rn.lald hG (CC_L ha) (vp_in_nI hk hn) hp ?_
  rw [nI_clamp (by omega)]
  exact kk
theorem Rn.clst {a n k : Nat} {i : Int32} {x : Int64} (hG : xG j pc = some (.lastore, len)) (ha : cLng a = some n) (hi : i = nI k) (hk : k < n) (hn : n < 2147483648) (hp : pc + len = pc') (kk : Rn d j pc' ls st (CC m0 F I (va_up L a (vp_updL (L a) k x)) R H) P) : Rn d j pc ls (.long x :: .int i :: .ref a :: st) (CC m0 F I L R H) P := by
  subst hi
  have h1 := cLng_in ha
  refine Rn.last hG (by unfold xS; omega) (CC_L ha) (vp_in_nI hk hn) hp ?_
  rw [nI_clamp (by omega), CC_setL ha]
  exact kk
theorem Rn.cput {q o : Nat} {x : Int32} {fs : List Value} (hG : xG j pc = some (.putfield q, len)) (ho : cobj (F o) H o = some (q / 64, fs)) (hty : (xfty (q / 64))[q % 64]? = some .int) (hs : cobj (upd (F o) (q % 64) x) H o = some (q / 64, fs.set (q % 64) (.int x))) (hl : Nat.blt (q % 64) fs.length = true) (hol : o < 50) (hp : pc + len = pc') (kk : Rn d j pc' ls st (CC m0 (va_up F o (upd (F o) (q % 64) x)) I L R H) P) : Rn d j pc ls (.int x :: .ref o :: st) (CC m0 F I L R H) P := by
  refine Rn.putf (ci := q / 64) (fs := fs) hG (by unfold xS; omega) (CC_O ho) ⟨rfl, by rwa [Nat.blt_eq] at hl⟩ hty ⟨rfl, rfl⟩ hp ?_
  rw [CC_setO hs]
  exact kk
theorem Rn.cputz {q o : Nat} {x : Int32} {fs : List Value} (hG : xG j pc = some (.putfield q, len)) (ho : cobj (F o) H o = some (q / 64, fs)) (hty : (xfty (q / 64))[q % 64]? = some .boolean) (hs : cobj (upd (F o) (q % 64) x) H o = some (q / 64, fs.set (q % 64) (.int x))) (hl : Nat.blt (q % 64) fs.length = true) (hol : o < 50) (hx : x = 0 ∨ x = 1) (hp : pc + len = pc') (kk : Rn d j pc' ls st (CC m0 (va_up F o (upd (F o) (q % 64) x)) I L R H) P) : Rn d j pc ls (.int x :: .ref o :: st) (CC m0 F I L R H) P := by
  refine Rn.putf (ci := q / 64) (fs := fs) hG (by unfold xS; omega) (CC_O ho) ⟨rfl, by rwa [Nat.blt_eq] at hl⟩ hty ⟨nar_b hx, by rcases hx with rfl | rfl <;> rfl⟩ hp ?_
  rw [CC_setO hs]
  exact kk
theorem Rn.cputH {v : Value} (hG : xG j pc = some (.putfield 3, len)) (hv : v = .null ∨ ∃ a, v = .ref a) (hp : pc + len = pc') (kk : Rn d j pc' ls st (CC m0 F I L R v) P) : Rn d j pc ls (v :: .ref 14 :: st) (CC m0 F I L R H) P := by
  refine Rn.putf (ci := 0) (fs := [.ref 15, .ref 16, .ref 17, H, .int (F 14 4), .int (F 14 5)]) (ty := .object "OneBoots$Rule") hG (by decide) rfl ⟨rfl, show 3 % 64 < 6 by decide⟩ rfl (by rcases hv with rfl | ⟨a, rfl⟩ <;> exact ⟨rfl, rfl⟩) hp ?_
  rw [show ([.ref 15, .ref 16, .ref 17, H, .int (F 14 4), .int (F 14 5)] : List Value).set (3 % 64) v = [.ref 15, .ref 16, .ref 17, v, .int (F 14 4), .int (F 14 5)] from rfl, CC_setH]
  exact kk
/-- the class's memory, with one world's row told apart -/
abbrev CWm (m0 : xM) (F I : Nat → Nat → Int32) (L : Nat → Nat → Int64) (R : Nat → Nat → Option Nat) (H : Value) (o : Nat) (w : Nat → Int32) : xM := CC m0 F (va_up I (o + 1) w) L R H
variable {o : Nat} {w : Nat → Int32}
theorem Rn.cwld {k : Nat} {i x : Int32} (hG : xG j pc = some (.iaload, len)) (ho : isW o) (hi : i = nI k) (hk : k < 33) (hv : w k = x) (hn : (33 : Nat) < 2147483648) (hp : pc + len = pc') (kk : Rn d j pc' ls (.int x :: st) (CWm m0 F I L R H o w) P) : Rn d j pc ls (.int i :: .ref (o + 1) :: st) (CWm m0 F I L R H o w) P :=
  Rn.cald (a := o + 1) (n := 33) (k := k) hG (isW_i ho) hi hk (by rw [va_up_self]; exact hv) hn hp kk
theorem Rn.cwst {k : Nat} {i x : Int32} (hG : xG j pc = some (.iastore, len)) (ho : isW o) (hi : i = nI k) (hk : k < 33) (hn : (33 : Nat) < 2147483648) (hp : pc + len = pc') (kk : Rn d j pc' ls st (CWm m0 F I L R H o (upd w k x)) P) : Rn d j pc ls (.int x :: .int i :: .ref (o + 1) :: st) (CWm m0 F I L R H o w) P := by
  refine Rn.cast (a := o + 1) (n := 33) (k := k) hG (isW_i ho) hi hk hn hp ?_
  rw [va_up_self, up_up]
  exact kk
/-- System.arraycopy among the class's rows -/
theorem Rn.ccopy {a0 a n0 n1 sp dp n : Nat} {i0 i1 i2 : Int32} (hG : xG j pc = some (.invokestatic 9998, len)) (hd : 0 < d) (ha0 : cInt a0 = some (0, n0)) (ha : cInt a = some (0, n1)) (h0 : i0 = nI sp) (h1 : i1 = nI dp) (h2 : i2 = nI n) (hs : sp + n ≤ n0 ∧ dp + n ≤ n1 ∧ n0 < 2147483648 ∧ n1 < 2147483648) (hc : xcat st ≤ 8) (hp : pc + len = pc') (kk : Rn d j pc' ls st (CC m0 F (va_up I a (va_cpy (I a0) (I a) sp dp n)) L R H) P) : Rn d j pc ls (.int i2 :: .int i1 :: .ref a :: .int i0 :: .ref a0 :: st) (CC m0 F I L R H) P := by
  subst h0 h1 h2 hp
  have b0 := cInt_in ha0
  have b1 := cInt_in ha
  obtain ⟨c1, c2, c3, c4⟩ := hs
  have hcond : a < xS ∧ a0 < xS ∧ xcat st ≤ 8 ∧ ¬ nI sp < 0 ∧ ¬ nI dp < 0 ∧ ¬ nI n < 0 := ⟨by unfold xS; omega, by unfold xS; omega, hc, nI_pos (by omega), nI_pos (by omega), nI_pos (by omega)⟩
  have hcond2 : (nI sp).toNatClampNeg + (nI n).toNatClampNeg ≤ n0 ∧ (nI dp).toNatClampNeg + (nI n).toNatClampNeg ≤ n1 := by
    rw [nI_clamp (by omega), nI_clamp (by omega), nI_clamp (by omega)]
    exact ⟨c1, c2⟩
  refine Rn.copy (m' := _) hG hd (by simp only [x_copy, if_pos hcond, CC_I ha0, CC_I ha, if_pos hcond2]; rfl) ?_
  rw [nI_clamp (by omega), nI_clamp (by omega), nI_clamp (by omega)]
  have := CC_setI (m0 := m0) (F := F) (I := I) (L := L) (R := R) (H := H) ha (va_cpy (I a0) (I a) sp dp n)
  dsimp only at this
  rw [this]
  exact kk
end CCR
end CC0
