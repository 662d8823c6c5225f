/-! THE MODEL: the small calls. -/
section MD
variable {m0 : xM} {v : Nat → Int32} {dx : Int64} {A : Nat → Nat → Int32} {LA : Nat → Nat → Int64} {s : Nat → Int32}
theorem sw_cases (x : Int32) (n : Nat) (hn : n < 2 ^ 31 - 1) : (x.toInt < 0 ∨ (n : Int) < x.toInt) ∨ ∃ k, k < n + 1 ∧ x = nI k := by
  by_cases h : x.toInt < 0 ∨ (n : Int) < x.toInt
  · exact Or.inl h
  · right
    have h0 : (0 : Int32).toInt = 0 := by decide
    obtain ⟨j, hj, rfl⟩ := nI_of (x := x) (by rw [Int32.lt_iff_toInt_lt]; omega)
    rw [nI_toInt hj] at h
    exact ⟨j, by omega, rfl⟩
theorem sw_ne {x : Int32} {n : Nat} (h : x.toInt < 0 ∨ (n : Int) < x.toInt) (k : Nat) (hk : k ≤ n) (hn : n < 2 ^ 31 - 1) : ¬ x = nI k := by
  rintro rfl
  rw [nI_toInt (by omega)] at h
  omega
theorem Rn.mbast {d j pc len pc' : Nat} {ls st : List Value} {Q : Option Value → xM → Prop} {a n k t : Nat} {i x : Int32} (hG : xG j pc = some (.bastore, len)) (ha : mI a = some (t, n)) (ht : t = 1 ∨ t = 3) (hi : i = nI k) (hk : k < n) (hn : n < 2147483648) (hp : pc + len = pc') (kk : Rn d j pc' ls st (MM m0 v dx (va_up A a (upd (A a) k (vp_nar (if t = 1 then .byte else .boolean) x))) LA) Q) : Rn d j pc ls (.int x :: .int i :: .ref a :: st) (MM m0 v dx A LA) Q := by
  subst hi hp
  obtain ⟨h1, h2, -, -⟩ := mI_in ha
  have hx : ¬ xout (nI k) n = true := by
    have := vp_in_nI hk hn
    simpa [xout, vp_in] using this
  have hl : a < xS := by unfold xS; omega
  have hs := MM_setI (m0 := m0) (v := v) (dx := dx) (A := A) (LA := LA) ha (upd (A a) k (vp_nar (if t = 1 then .byte else .boolean) x))
  rcases ht with rfl | rfl
  · refine Rn.step (m' := _) hG (by simp only [xs, x_bast, if_pos hl, MM_I ha, if_neg hx]; rfl) ?_
    rw [nI_clamp (by omega)]
    simp only [if_true] at hs kk
    rw [hs]
    exact kk
  · refine Rn.step (m' := _) hG (by simp only [xs, x_bast, if_pos hl, MM_I ha, if_neg hx]; rfl) ?_
    rw [nI_clamp (by omega)]
    simp only [show ¬ (3 : Nat) = 1 by decide, if_false] at hs kk
    rw [hs]
    exact kk
theorem Rn.obast {d j pc len pc' : Nat} {ls st : List Value} {Q : Option Value → xM → Prop} {a n k t : Nat} {i x : Int32} (hG : xG j pc = some (.bastore, len)) (ha : mI a = some (t, n)) (ht : t = 1 ∨ t = 3) (h6 : a ≠ 60) (hi : i = nI k) (hk : k < n) (hn : n < 2147483648) (hp : pc + len = pc') (kk : Rn d j pc' ls st (MS m0 v dx (va_up A a (upd (A a) k (vp_nar (if t = 1 then .byte else .boolean) x))) LA s) Q) : Rn d j pc ls (.int x :: .int i :: .ref a :: st) (MS m0 v dx A LA s) Q := by
  refine Rn.mbast hG ha ht hi hk hn hp ?_
  rw [show va_up A 60 s a = A a by simp [va_up, h6], up_cm A h6.symm]
  exact kk
theorem Rn.obald {d j pc len pc' : Nat} {ls st : List Value} {Q : Option Value → xM → Prop} {a n k t : Nat} {i : Int32} (hG : xG j pc = some (.baload, len)) (ha : mI a = some (t, n)) (ht : t = 1 ∨ t = 3) (h6 : a ≠ 60) (hi : i = nI k) (hk : k < n) (hn : n < 2147483648) (hp : pc + len = pc') (kk : Rn d j pc' ls (.int (A a k) :: st) (MS m0 v dx A LA s) Q) : Rn d j pc ls (.int i :: .ref a :: st) (MS m0 v dx A LA s) Q := by
  refine Rn.mbald hG ha ht hi hk hn hp ?_
  rw [show va_up A 60 s a = A a by simp [va_up, h6]]
  exact kk
/-- a byte of an int, as it is stored -/
def bt (x : Int32) (k : Int32) : Int32 := vp_nar .byte (x >>> (k &&& 31)).toInt8.toInt32
def fr (T : Nat → Int32) (n : Nat) (x : Int32) : Nat → Int32 := upd (upd (upd (upd T n (bt x 24)) (n + 1) (bt x 16)) (n + 2) (bt x 8)) (n + 3) (bt x 0)
def F1 (T : Nat → Int32) (n : Nat) (x : Int32) : Nat → Int32 := upd T n (bt x 24)
def F2 (T : Nat → Int32) (n : Nat) (x : Int32) : Nat → Int32 := upd (F1 T n x) (n + 1) (bt x 16)
def F3 (T : Nat → Int32) (n : Nat) (x : Int32) : Nat → Int32 := upd (F2 T n x) (n + 2) (bt x 8)
def F4 (T : Nat → Int32) (n : Nat) (x : Int32) : Nat → Int32 := upd (F3 T n x) (n + 3) (bt x 0)
theorem c_M_four {d n : Nat} (hn : v 1 = nI n) (h4 : n + 4 ≤ 400) (x : Int32) : Cl d j_M_four [.ref 50, .int x] (MS m0 v dx A LA s) (Pv (MS m0 (upd v 1 (nI (n + 4))) dx (va_up A 51 (fr (A 51) n x)) LA s)) := by
  show Rn d j_M_four 0 _ _ _ _
  refine Rn.iconst (v := 24) (pc' := 2) rfl (by decide) rfl ?_
  refine Rn.step (pc' := 3) rfl rfl ?_
  refine Rn.step (pc' := 4) rfl rfl ?_
  refine Rn.ifc_lt (pc1 := 36) (pc2 := 7) rfl rfl rfl (fun h4 => absurd h4 (show ¬ (24 : Int32) < 0 from by decide)) (fun h4 => ?_)
  refine Rn.step (pc' := 8) rfl rfl ?_
  refine Rn.getf (pc' := 11) rfl rfl rfl rfl rfl ?_
  refine Rn.step (pc' := 12) rfl rfl ?_
  refine Rn.getf (pc' := 15) rfl rfl rfl rfl rfl ?_
  refine Rn.step (pc' := 16) rfl rfl ?_
  refine Rn.step (pc' := 17) rfl rfl ?_
  refine Rn.ishr (pc' := 18) rfl rfl ?_
  refine Rn.i2b (pc' := 19) rfl rfl ?_
  refine Rn.obast (k := n + 0) (pc' := 20) rfl rfl (by decide) (by decide) ((by first | exact hn | rfl)) (by omega) (by decide) rfl ?_
  refine Rn.step (pc' := 21) rfl rfl ?_
  refine Rn.step (pc' := 22) rfl rfl ?_
  refine Rn.getf (pc' := 25) rfl rfl rfl rfl rfl ?_
  refine Rn.iconst (v := 1) (pc' := 26) rfl (by decide) rfl ?_
  refine Rn.iadd (pc' := 27) rfl rfl ?_
  refine Rn.mput (pc' := 30) rfl rfl rfl rfl (by decide) rfl ?_
  refine Rn.step (pc' := 33) rfl rfl ?_
  refine Rn.step (pc' := 3) rfl rfl ?_
  refine Rn.ls3 (b0 := .ref 50) (b1 := .int x) (b2 := .int (16)) rfl rfl (congrArg Value.int (by decide)) ?_
  refine Rn.mm (m2 := MS m0 (upd v 1 (nI (n + 1))) dx (va_up A 51 (F1 (A 51) n x)) LA s) ?_ ?_
  · rw [hn, nI_1]
    rfl
  refine Rn.step (pc' := 4) rfl rfl ?_
  refine Rn.ifc_lt (pc1 := 36) (pc2 := 7) rfl rfl rfl (fun h4 => absurd h4 (show ¬ (16 : Int32) < 0 from by decide)) (fun h4 => ?_)
  refine Rn.step (pc' := 8) rfl rfl ?_
  refine Rn.getf (pc' := 11) rfl rfl rfl rfl rfl ?_
  refine Rn.step (pc' := 12) rfl rfl ?_
  refine Rn.getf (pc' := 15) rfl rfl rfl rfl rfl ?_
  refine Rn.step (pc' := 16) rfl rfl ?_
  refine Rn.step (pc' := 17) rfl rfl ?_
  refine Rn.ishr (pc' := 18) rfl rfl ?_
  refine Rn.i2b (pc' := 19) rfl rfl ?_
  refine Rn.obast (k := n + 1) (pc' := 20) rfl rfl (by decide) (by decide) ((by first | exact hn | rfl)) (by omega) (by decide) rfl ?_
  refine Rn.step (pc' := 21) rfl rfl ?_
  refine Rn.step (pc' := 22) rfl rfl ?_
  refine Rn.getf (pc' := 25) rfl rfl rfl rfl rfl ?_
  refine Rn.iconst (v := 1) (pc' := 26) rfl (by decide) rfl ?_
  refine Rn.iadd (pc' := 27) rfl rfl ?_
  refine Rn.mput (pc' := 30) rfl rfl rfl rfl (by decide) rfl ?_
  refine Rn.step (pc' := 33) rfl rfl ?_
  refine Rn.step (pc' := 3) rfl rfl ?_
  refine Rn.ls3 (b0 := .ref 50) (b1 := .int x) (b2 := .int (8)) rfl rfl (congrArg Value.int (by decide)) ?_
  refine Rn.mm (m2 := MS m0 (upd v 1 (nI (n + 2))) dx (va_up A 51 (F2 (A 51) n x)) LA s) ?_ ?_
  · rw [upd_u, upd_s, nI_1, up_up, va_up_self]
    rfl
  refine Rn.step (pc' := 4) rfl rfl ?_
  refine Rn.ifc_lt (pc1 := 36) (pc2 := 7) rfl rfl rfl (fun h4 => absurd h4 (show ¬ (8 : Int32) < 0 from by decide)) (fun h4 => ?_)
  refine Rn.step (pc' := 8) rfl rfl ?_
  refine Rn.getf (pc' := 11) rfl rfl rfl rfl rfl ?_
  refine Rn.step (pc' := 12) rfl rfl ?_
  refine Rn.getf (pc' := 15) rfl rfl rfl rfl rfl ?_
  refine Rn.step (pc' := 16) rfl rfl ?_
  refine Rn.step (pc' := 17) rfl rfl ?_
  refine Rn.ishr (pc' := 18) rfl rfl ?_
  refine Rn.i2b (pc' := 19) rfl rfl ?_
  refine Rn.obast (k := n + 2) (pc' := 20) rfl rfl (by decide) (by decide) ((by first | exact hn | rfl)) (by omega) (by decide) rfl ?_
  refine Rn.step (pc' := 21) rfl rfl ?_
  refine Rn.step (pc' := 22) rfl rfl ?_
  refine Rn.getf (pc' := 25) rfl rfl rfl rfl rfl ?_
  refine Rn.iconst (v := 1) (pc' := 26) rfl (by decide) rfl ?_
  refine Rn.iadd (pc' := 27) rfl rfl ?_
  refine Rn.mput (pc' := 30) rfl rfl rfl rfl (by decide) rfl ?_
  refine Rn.step (pc' := 33) rfl rfl ?_
  refine Rn.step (pc' := 3) rfl rfl ?_
  refine Rn.ls3 (b0 := .ref 50) (b1 := .int x) (b2 := .int (0)) rfl rfl (congrArg Value.int (by decide)) ?_
  refine Rn.mm (m2 := MS m0 (upd v 1 (nI (n + 3))) dx (va_up A 51 (F3 (A 51) n x)) LA s) ?_ ?_
  · rw [upd_u, upd_s, nI_1, up_up, va_up_self]
    rfl
  refine Rn.step (pc' := 4) rfl rfl ?_
  refine Rn.ifc_lt (pc1 := 36) (pc2 := 7) rfl rfl rfl (fun h4 => absurd h4 (show ¬ (0 : Int32) < 0 from by decide)) (fun h4 => ?_)
  refine Rn.step (pc' := 8) rfl rfl ?_
  refine Rn.getf (pc' := 11) rfl rfl rfl rfl rfl ?_
  refine Rn.step (pc' := 12) rfl rfl ?_
  refine Rn.getf (pc' := 15) rfl rfl rfl rfl rfl ?_
  refine Rn.step (pc' := 16) rfl rfl ?_
  refine Rn.step (pc' := 17) rfl rfl ?_
  refine Rn.ishr (pc' := 18) rfl rfl ?_
  refine Rn.i2b (pc' := 19) rfl rfl ?_
  refine Rn.obast (k := n + 3) (pc' := 20) rfl rfl (by decide) (by decide) ((by first | exact hn | rfl)) (by omega) (by decide) rfl ?_
  refine Rn.step (pc' := 21) rfl rfl ?_
  refine Rn.step (pc' := 22) rfl rfl ?_
  refine Rn.getf (pc' := 25) rfl rfl rfl rfl rfl ?_
  refine Rn.iconst (v := 1) (pc' := 26) rfl (by decide) rfl ?_
  refine Rn.iadd (pc' := 27) rfl rfl ?_
  refine Rn.mput (pc' := 30) rfl rfl rfl rfl (by decide) rfl ?_
  refine Rn.step (pc' := 33) rfl rfl ?_
  refine Rn.step (pc' := 3) rfl rfl ?_
  refine Rn.ls3 (b0 := .ref 50) (b1 := .int x) (b2 := .int (-8)) rfl rfl (congrArg Value.int (by decide)) ?_
  refine Rn.mm (m2 := MS m0 (upd v 1 (nI (n + 4))) dx (va_up A 51 (F4 (A 51) n x)) LA s) ?_ ?_
  · rw [upd_u, upd_s, nI_1, up_up, va_up_self]
    rfl
  refine Rn.step (pc' := 4) rfl rfl ?_
  refine Rn.ifc_lt (pc1 := 36) (pc2 := 7) rfl rfl rfl (fun h4 => ?_) (fun h4 => absurd (show (-8 : Int32) < 0 from by decide) h4)
  exact Rn.retv rfl (rfl)
/-- fed -/
def fd5 (T : Nat → Int32) (n : Nat) (a b c e f : Int32) : Nat → Int32 := fr (fr (fr (fr (fr T n a) (n + 4) b) (n + 8) c) (n + 12) e) (n + 16) f
theorem c_M_feed {d n : Nat} (hd : 1 ≤ d) (hn : v 1 = nI n) (h4 : n ≤ 400) (a b c e f : Int32) : Cl d j_M_feed [.ref 50, .int a, .int b, .int c, .int e, .int f] (MS m0 v dx A LA s) (fun r m2 => (380 < n → r = some (.int (-1)) ∧ m2 = MS m0 v dx A LA s) ∧ (¬ 380 < n → r = some (.int (nI (n + 20))) ∧ m2 = MS m0 (upd v 1 (nI (n + 20))) dx (va_up A 51 (fd5 (A 51) n a b c e f)) LA s)) := by
  show Rn d j_M_feed 0 _ _ _ _
  refine Rn.step (pc' := 1) rfl rfl ?_
  refine Rn.getf (pc' := 4) rfl rfl rfl rfl rfl ?_
  refine Rn.iconst (v := 20) (pc' := 6) rfl (by decide) rfl ?_
  refine Rn.iadd (pc' := 7) rfl rfl ?_
  refine Rn.iconst (v := 400) (pc' := 10) rfl (by decide) rfl ?_
  refine Rn.icmp_le (pc1 := 15) (pc2 := 13) rfl rfl rfl (fun h10 => ?_) (fun h10 => ?_)
  · have h20 : n + 20 ≤ 400 := by
      rw [hn] at h10
      have := (nI_leI (a := n + 20) (b := 400) (by omega) (by omega)).mp (by rw [← nI_add]; exact h10)
      omega
    refine Rn.step (pc' := 16) rfl rfl ?_
    refine Rn.step (pc' := 17) rfl rfl ?_
    refine Rn.vv (pc' := 20) rfl (by decide) (by omega) rfl rfl rfl (c_M_four hn (by omega) a) ?_
    refine Rn.step (pc' := 21) rfl rfl ?_
    refine Rn.step (pc' := 22) rfl rfl ?_
    refine Rn.vv (pc' := 25) rfl (by decide) (by omega) rfl rfl rfl (c_M_four (n := n + 4) (upd_s _ _ _) (by omega) b) ?_
    refine Rn.mm (m2 := MS m0 (upd v 1 (nI (n + 8))) dx (va_up A 51 (fr (fr ((A 51)) n a) (n + 4) b)) LA s) (by rw [upd_u, va_up_self, up_up]) ?_
    refine Rn.step (pc' := 26) rfl rfl ?_
    refine Rn.step (pc' := 27) rfl rfl ?_
    refine Rn.vv (pc' := 30) rfl (by decide) (by omega) rfl rfl rfl (c_M_four (n := n + 8) (upd_s _ _ _) (by omega) c) ?_
    refine Rn.mm (m2 := MS m0 (upd v 1 (nI (n + 12))) dx (va_up A 51 (fr (fr (fr ((A 51)) n a) (n + 4) b) (n + 8) c)) LA s) (by rw [upd_u, va_up_self, up_up]) ?_
    refine Rn.step (pc' := 31) rfl rfl ?_
    refine Rn.step (pc' := 33) rfl rfl ?_
    refine Rn.vv (pc' := 36) rfl (by decide) (by omega) rfl rfl rfl (c_M_four (n := n + 12) (upd_s _ _ _) (by omega) e) ?_
    refine Rn.mm (m2 := MS m0 (upd v 1 (nI (n + 16))) dx (va_up A 51 (fr (fr (fr (fr ((A 51)) n a) (n + 4) b) (n + 8) c) (n + 12) e)) LA s) (by rw [upd_u, va_up_self, up_up]) ?_
    refine Rn.step (pc' := 37) rfl rfl ?_
    refine Rn.step (pc' := 39) rfl rfl ?_
    refine Rn.vv (pc' := 42) rfl (by decide) (by omega) rfl rfl rfl (c_M_four (n := n + 16) (upd_s _ _ _) (by omega) f) ?_
    refine Rn.mm (m2 := MS m0 (upd v 1 (nI (n + 20))) dx (va_up A 51 (fr (fr (fr (fr (fr ((A 51)) n a) (n + 4) b) (n + 8) c) (n + 12) e) (n + 16) f)) LA s) (by rw [upd_u, va_up_self, up_up]) ?_
    refine Rn.step (pc' := 43) rfl rfl ?_
    refine Rn.getf (pc' := 46) rfl rfl rfl rfl rfl ?_
    exact Rn.iret rfl (rfl) (⟨fun hg => absurd hg (by omega), fun _ => ⟨rfl, rfl⟩⟩)
  · refine Rn.iconst (v := (-1)) (pc' := 14) rfl (by decide) rfl ?_
    exact Rn.iret rfl (rfl) (⟨fun _ => ⟨rfl, rfl⟩, fun hg => absurd (by
        have := Int32.not_le.mp h10
        rw [hn] at this
        have := (nI_ltI (a := 400) (b := n + 20) (by omega) (by omega)).mp (by rw [← nI_add]; exact this)
        omega) hg⟩)
def gEn (x : Int32) (n : Nat) : Prop := x < 0 ∨ nI n < x
theorem c_M_end {d n : Nat} (hn : v 1 = nI n) (x : Int32) : Cl d j_M_end [.ref 50, .int x] (MS m0 v dx A LA s) (fun r m2 => (gEn x n → r = some (.int (-1)) ∧ m2 = MS m0 v dx A LA s) ∧ (¬ gEn x n → r = some (.int x) ∧ m2 = MS m0 (upd v 1 x) dx A LA s)) := by
  show Rn d j_M_end 0 _ _ _ _
  refine Rn.step (pc' := 1) rfl rfl ?_
  refine Rn.ifc_lt (pc1 := 12) (pc2 := 4) rfl rfl rfl (fun h1 => ?_) (fun h1 => ?_)
  · refine Rn.iconst (v := (-1)) (pc' := 13) rfl (by decide) rfl ?_
    exact Rn.iret rfl (rfl) (⟨fun _ => ⟨rfl, rfl⟩, fun hg => absurd (Or.inl h1) hg⟩)
  · refine Rn.step (pc' := 5) rfl rfl ?_
    refine Rn.step (pc' := 6) rfl rfl ?_
    refine Rn.getf (pc' := 9) rfl rfl rfl rfl rfl ?_
    refine Rn.icmp_le (pc1 := 14) (pc2 := 12) rfl rfl rfl (fun h9 => ?_) (fun h9 => ?_)
    · refine Rn.step (pc' := 15) rfl rfl ?_
      refine Rn.step (pc' := 16) rfl rfl ?_
      refine Rn.mput (pc' := 19) rfl rfl rfl rfl (by decide) rfl ?_
      refine Rn.step (pc' := 20) rfl rfl ?_
      exact Rn.iret rfl (rfl) (⟨fun hg => absurd hg (fun z => z.elim h1 (fun c => absurd h9 (Int32.not_le.mpr (by rw [hn]; exact c)))), fun _ => ⟨rfl, rfl⟩⟩)
    · refine Rn.iconst (v := (-1)) (pc' := 13) rfl (by decide) rfl ?_
      exact Rn.iret rfl (rfl) (⟨fun _ => ⟨rfl, rfl⟩, fun hg => absurd (Or.inr (by rw [← hn]; exact Int32.not_le.mp h9)) hg⟩)
def gFo (x : Int32) (rn : Int32) : Prop := ¬ x = -1 ∧ ¬ (¬ x < 0 ∧ ¬ rn ≤ x)
theorem c_M_force {d : Nat} (hd : 1 ≤ d) (x : Int32) : Cl d j_M_force [.ref 50, .int x] (MS m0 v dx A LA s) (fun r m2 => (gFo x (v 2) → r = some (.int (-2)) ∧ m2 = MS m0 v dx A LA s) ∧ (¬ gFo x (v 2) → r = some (.int (v 21)) ∧ m2 = MS m0 (upd v 21 x) dx A LA s)) := by
  show Rn d j_M_force 0 _ _ _ _
  refine Rn.step (pc' := 1) rfl rfl ?_
  refine Rn.iconst (v := (-1)) (pc' := 2) rfl (by decide) rfl ?_
  refine Rn.icmp_eq (pc1 := 16) (pc2 := 5) rfl rfl rfl (fun h2 => ?_) (fun h2 => ?_)
  · refine Rn.step (pc' := 17) rfl rfl ?_
    refine Rn.getf (pc' := 20) rfl rfl rfl rfl rfl ?_
    refine Rn.step (pc' := 21) rfl rfl ?_
    refine Rn.step (pc' := 22) rfl rfl ?_
    refine Rn.step (pc' := 23) rfl rfl ?_
    refine Rn.mput (pc' := 26) rfl rfl rfl rfl (by decide) rfl ?_
    refine Rn.step (pc' := 27) rfl rfl ?_
    exact Rn.iret rfl (rfl) (⟨fun hg => absurd h2 hg.1, fun _ => ⟨rfl, rfl⟩⟩)
  · refine Rn.step (pc' := 6) rfl rfl ?_
    refine Rn.step (pc' := 7) rfl rfl ?_
    refine Rn.vi (pc' := 10) rfl (by decide) (by omega) rfl rfl rfl (c_M_isRule x) ?_
    refine Rn.ifp_ne (pc1 := 16) (pc2 := 13) rfl rfl rfl (fun h10 => ?_) (fun h10 => ?_)
    · refine Rn.step (pc' := 17) rfl rfl ?_
      refine Rn.getf (pc' := 20) rfl rfl rfl rfl rfl ?_
      refine Rn.step (pc' := 21) rfl rfl ?_
      refine Rn.step (pc' := 22) rfl rfl ?_
      refine Rn.step (pc' := 23) rfl rfl ?_
      refine Rn.mput (pc' := 26) rfl rfl rfl rfl (by decide) rfl ?_
      refine Rn.step (pc' := 27) rfl rfl ?_
      exact Rn.iret rfl (rfl) (⟨fun hg => absurd h10 hg.2, fun _ => ⟨rfl, rfl⟩⟩)
    · refine Rn.iconst (v := (-2)) (pc' := 15) rfl (by decide) rfl ?_
      exact Rn.iret rfl (rfl) (⟨fun _ => ⟨rfl, rfl⟩, fun hg => absurd ⟨h2, h10⟩ hg⟩)
theorem c_M_seed {d : Nat} (x : Int32) : Cl d j_M_seed [.ref 50, .int x] (MS m0 v dx A LA s) (fun r m2 => (x < 0 → r = some (.int (-1)) ∧ m2 = MS m0 v dx A LA s) ∧ (¬ x < 0 → r = some (.int (v 22)) ∧ m2 = MS m0 (upd v 22 x) dx A LA s)) := by
  show Rn d j_M_seed 0 _ _ _ _
  refine Rn.step (pc' := 1) rfl rfl ?_
  refine Rn.ifc_ge (pc1 := 6) (pc2 := 4) rfl rfl rfl (fun h1 => ?_) (fun h1 => ?_)
  · refine Rn.step (pc' := 7) rfl rfl ?_
    refine Rn.getf (pc' := 10) rfl rfl rfl rfl rfl ?_
    refine Rn.step (pc' := 11) rfl rfl ?_
    refine Rn.step (pc' := 12) rfl rfl ?_
    refine Rn.step (pc' := 13) rfl rfl ?_
    refine Rn.mput (pc' := 16) rfl rfl rfl rfl (by decide) rfl ?_
    refine Rn.step (pc' := 17) rfl rfl ?_
    exact Rn.iret rfl (rfl) (⟨fun hg => absurd hg (Int32.not_lt.mpr h1), fun _ => ⟨rfl, rfl⟩⟩)
  · refine Rn.iconst (v := (-1)) (pc' := 5) rfl (by decide) rfl ?_
    exact Rn.iret rfl (rfl) (⟨fun _ => ⟨rfl, rfl⟩, fun hg => absurd (Int32.not_le.mp h1) hg⟩)
theorem LI.plc {P Bn Fn Wn : Nat} {s : Nat → Int32} (h : LI P Bn Fn Wn s) {x : Int32} (h0 : ¬ x < 0 ∧ ¬ s 0 ≤ x) : 0 < s 0 ∧ WL P Bn Fn Wn s ∧ WD P Bn s ∧ ∃ q, q < P ∧ x = nI q := by
  rcases h with h | h
  · refine ⟨h.1, h.2.1, h.2.2, ?_⟩
    have h2 := h.2.1.p10
    rw [h.2.1.p] at h0
    exact pl_in (by omega) h0.1 h0.2
  · rw [h.1] at h0
    exact absurd (Int32.not_lt.mp h0.1) h0.2
abbrev isPl (s : Nat → Int32) (x : Int32) : Prop := ¬ x < 0 ∧ ¬ s 0 ≤ x
abbrev isBr (s : Nat → Int32) (x : Int32) : Prop := ¬ x < 0 ∧ ¬ s 2 ≤ x
theorem c_M_wet {d : Nat} (hd : 1 ≤ d) (x : Int32) {P Bn Fn Wn : Nat} (hi : LI P Bn Fn Wn s) : Cl d j_M_wet [.ref 50, .int x] (MS m0 v dx A LA s) (Pi (if isPl s x then s (100 + x.toNatClampNeg) else -1) (MS m0 v dx A LA s)) := by
  show Rn d j_M_wet 0 _ _ _ _
  refine Rn.step (pc' := 1) rfl rfl ?_
  refine Rn.step (pc' := 2) rfl rfl ?_
  refine Rn.vi (pc' := 5) rfl (by decide) (by omega) rfl rfl rfl (c_M_isPlace x) ?_
  refine Rn.ifp_eq (pc1 := 20) (pc2 := 8) rfl rfl rfl (fun h5 => ?_) (fun h5 => ?_)
  · refine Rn.iconst (v := (-1)) (pc' := 21) rfl (by decide) rfl ?_
    exact Rn.reti rfl (rfl) ((if_neg h5).symm) (rfl)
  · obtain ⟨h0, hl, hw, q, hq, rfl⟩ := hi.plc h5
    have hp10 := hl.p10
    have eq : (nI q).toNatClampNeg = q := nI_clamp (by omega)
    refine Rn.step (pc' := 9) rfl rfl ?_
    refine Rn.getf (pc' := 12) rfl rfl rfl rfl rfl ?_
    refine Rn.iconst (v := 100) (pc' := 14) rfl (by decide) rfl ?_
    refine Rn.step (pc' := 15) rfl rfl ?_
    refine Rn.iadd (pc' := 16) rfl rfl ?_
    refine Rn.sald (k := 100 + q) (pc' := 17) rfl rfl (by simp only [nI_lit, nI_add]) (by omega) (by decide) rfl ?_
    refine Rn.step (pc' := 21) rfl rfl ?_
    exact Rn.reti rfl (rfl) (by rw [if_pos h5, eq]) (rfl)
def aBr (s : Nat → Int32) (b Wn : Nat) (y : Int32) : Int32 := if y = nI 0 then s (10 + 6 * b + 0) else if y = nI 1 then s (10 + 6 * b + 1) else if y = nI 2 then s (10 + 6 * b + 2) else if y = nI 3 then s (10 + 6 * b + 3) else if y = nI 4 then s (10 + 6 * b + 4) else if y = nI 5 then mB1 s (nI b) else if y = nI 6 then s (10 + 6 * b + 5) else if y = nI 7 then mGo s b Wn else -1
theorem c_M_brother {d P Bn Fn Wn : Nat} (hd : 2 ≤ d) (hi : LI P Bn Fn Wn s) (x y : Int32) : Cl d j_M_brother [.ref 50, .int x, .int y] (MS m0 v dx A LA s) (Pi (if isBr s x then aBr s x.toNatClampNeg Wn y else -1) (MS m0 v dx A LA s)) := by
  show Rn d j_M_brother 0 _ _ _ _
  refine Rn.step (pc' := 1) rfl rfl ?_
  refine Rn.step (pc' := 2) rfl rfl ?_
  refine Rn.vi (pc' := 5) rfl (by decide) (by omega) rfl rfl rfl (c_M_isBrother x) ?_
  refine Rn.ifp_ne (pc1 := 10) (pc2 := 8) rfl rfl rfl (fun h5 => ?_) (fun h5 => ?_)
  · obtain ⟨h0, hl, hw, b, hb, rfl⟩ := hi.bro h5
    have hb6 := hl.b6
    have eb : (nI b).toNatClampNeg = b := nI_clamp (by omega)
    refine Rn.step (pc' := 11) rfl rfl ?_
    rcases sw_cases y 7 (by omega) with hs11 | ⟨k11, hk11, rfl⟩
    · refine Rn.tsd (pc1 := 82) rfl hs11 rfl ?_
      refine Rn.iconst (v := (-1)) (pc' := 83) rfl (by decide) rfl ?_
      exact Rn.iret rfl (rfl) (⟨by
          rw [if_pos h5, eb]
          exact congrArg (fun z => some (Value.int z)) (Eq.symm (by
            unfold aBr
            rw [if_neg (sw_ne hs11 0 (by omega) (by omega)), if_neg (sw_ne hs11 1 (by omega) (by omega)), if_neg (sw_ne hs11 2 (by omega) (by omega)), if_neg (sw_ne hs11 3 (by omega) (by omega)), if_neg (sw_ne hs11 4 (by omega) (by omega)), if_neg (sw_ne hs11 5 (by omega) (by omega)), if_neg (sw_ne hs11 6 (by omega) (by omega)), if_neg (sw_ne hs11 7 (by omega) (by omega))])), rfl⟩)
    · match k11, hk11 with
      | 0, _ =>
        refine Rn.tsw (pc1 := 56) rfl (by decide) rfl rfl ?_
        refine Rn.step (pc' := 57) rfl rfl ?_
        refine Rn.step (pc' := 58) rfl rfl ?_
        refine Rn.step (pc' := 59) rfl rfl ?_
        refine Rn.vi (pc' := 62) rfl (by decide) (by omega) rfl rfl rfl (c_M_brotherOf b 0 (by omega)) ?_
        exact Rn.iret rfl (rfl) (⟨by
            rw [if_pos h5, eb]
            exact congrArg (fun z => some (Value.int z)) (Eq.symm (by
              unfold aBr
              rw [if_pos rfl])), rfl⟩)
      | 1, _ =>
        refine Rn.tsw (pc1 := 56) rfl (by decide) rfl rfl ?_
        refine Rn.step (pc' := 57) rfl rfl ?_
        refine Rn.step (pc' := 58) rfl rfl ?_
        refine Rn.step (pc' := 59) rfl rfl ?_
        refine Rn.vi (pc' := 62) rfl (by decide) (by omega) rfl rfl rfl (c_M_brotherOf b 1 (by omega)) ?_
        exact Rn.iret rfl (rfl) (⟨by
            rw [if_pos h5, eb]
            exact congrArg (fun z => some (Value.int z)) (Eq.symm (by
              unfold aBr
              rw [if_neg (show ¬ nI 1 = nI 0 by decide), if_pos rfl])), rfl⟩)
      | 2, _ =>
        refine Rn.tsw (pc1 := 56) rfl (by decide) rfl rfl ?_
        refine Rn.step (pc' := 57) rfl rfl ?_
        refine Rn.step (pc' := 58) rfl rfl ?_
        refine Rn.step (pc' := 59) rfl rfl ?_
        refine Rn.vi (pc' := 62) rfl (by decide) (by omega) rfl rfl rfl (c_M_brotherOf b 2 (by omega)) ?_
        exact Rn.iret rfl (rfl) (⟨by
            rw [if_pos h5, eb]
            exact congrArg (fun z => some (Value.int z)) (Eq.symm (by
              unfold aBr
              rw [if_neg (show ¬ nI 2 = nI 0 by decide), if_neg (show ¬ nI 2 = nI 1 by decide), if_pos rfl])), rfl⟩)
      | 3, _ =>
        refine Rn.tsw (pc1 := 56) rfl (by decide) rfl rfl ?_
        refine Rn.step (pc' := 57) rfl rfl ?_
        refine Rn.step (pc' := 58) rfl rfl ?_
        refine Rn.step (pc' := 59) rfl rfl ?_
        refine Rn.vi (pc' := 62) rfl (by decide) (by omega) rfl rfl rfl (c_M_brotherOf b 3 (by omega)) ?_
        exact Rn.iret rfl (rfl) (⟨by
            rw [if_pos h5, eb]
            exact congrArg (fun z => some (Value.int z)) (Eq.symm (by
              unfold aBr
              rw [if_neg (show ¬ nI 3 = nI 0 by decide), if_neg (show ¬ nI 3 = nI 1 by decide), if_neg (show ¬ nI 3 = nI 2 by decide), if_pos rfl])), rfl⟩)
      | 4, _ =>
        refine Rn.tsw (pc1 := 56) rfl (by decide) rfl rfl ?_
        refine Rn.step (pc' := 57) rfl rfl ?_
        refine Rn.step (pc' := 58) rfl rfl ?_
        refine Rn.step (pc' := 59) rfl rfl ?_
        refine Rn.vi (pc' := 62) rfl (by decide) (by omega) rfl rfl rfl (c_M_brotherOf b 4 (by omega)) ?_
        exact Rn.iret rfl (rfl) (⟨by
            rw [if_pos h5, eb]
            exact congrArg (fun z => some (Value.int z)) (Eq.symm (by
              unfold aBr
              rw [if_neg (show ¬ nI 4 = nI 0 by decide), if_neg (show ¬ nI 4 = nI 1 by decide), if_neg (show ¬ nI 4 = nI 2 by decide), if_neg (show ¬ nI 4 = nI 3 by decide), if_pos rfl])), rfl⟩)
      | 5, _ =>
        refine Rn.tsw (pc1 := 63) rfl (by decide) rfl rfl ?_
        refine Rn.step (pc' := 64) rfl rfl ?_
        refine Rn.step (pc' := 65) rfl rfl ?_
        refine Rn.vi (pc' := 68) rfl (by decide) (by omega) rfl rfl rfl (c_M_bootsOn (by omega) (nI b)) ?_
        exact Rn.iret rfl (rfl) (⟨by
            rw [if_pos h5, eb]
            exact congrArg (fun z => some (Value.int z)) (Eq.symm (by
              unfold aBr
              rw [if_neg (show ¬ nI 5 = nI 0 by decide), if_neg (show ¬ nI 5 = nI 1 by decide), if_neg (show ¬ nI 5 = nI 2 by decide), if_neg (show ¬ nI 5 = nI 3 by decide), if_neg (show ¬ nI 5 = nI 4 by decide), if_pos rfl])), rfl⟩)
      | 6, _ =>
        refine Rn.tsw (pc1 := 69) rfl (by decide) rfl rfl ?_
        refine Rn.step (pc' := 70) rfl rfl ?_
        refine Rn.step (pc' := 71) rfl rfl ?_
        refine Rn.iconst (v := 5) (pc' := 72) rfl (by decide) rfl ?_
        refine Rn.vi (pc' := 75) rfl (by decide) (by omega) rfl rfl rfl (c_M_brotherOf b 5 (by omega)) ?_
        exact Rn.iret rfl (rfl) (⟨by
            rw [if_pos h5, eb]
            exact congrArg (fun z => some (Value.int z)) (Eq.symm (by
              unfold aBr
              rw [if_neg (show ¬ nI 6 = nI 0 by decide), if_neg (show ¬ nI 6 = nI 1 by decide), if_neg (show ¬ nI 6 = nI 2 by decide), if_neg (show ¬ nI 6 = nI 3 by decide), if_neg (show ¬ nI 6 = nI 4 by decide), if_neg (show ¬ nI 6 = nI 5 by decide), if_pos rfl])), rfl⟩)
      | 7, _ =>
        refine Rn.tsw (pc1 := 76) rfl (by decide) rfl rfl ?_
        refine Rn.step (pc' := 77) rfl rfl ?_
        refine Rn.step (pc' := 78) rfl rfl ?_
        refine Rn.vi (pc' := 81) rfl (by decide) (by omega) rfl rfl rfl (c_M_goalOf (by omega) hl.w hl.w10 b (by omega)) ?_
        exact Rn.iret rfl (rfl) (⟨by
            rw [if_pos h5, eb]
            exact congrArg (fun z => some (Value.int z)) (Eq.symm (by
              unfold aBr
              rw [if_neg (show ¬ nI 7 = nI 0 by decide), if_neg (show ¬ nI 7 = nI 1 by decide), if_neg (show ¬ nI 7 = nI 2 by decide), if_neg (show ¬ nI 7 = nI 3 by decide), if_neg (show ¬ nI 7 = nI 4 by decide), if_neg (show ¬ nI 7 = nI 5 by decide), if_neg (show ¬ nI 7 = nI 6 by decide), if_pos rfl])), rfl⟩)
  · refine Rn.iconst (v := (-1)) (pc' := 9) rfl (by decide) rfl ?_
    exact Rn.iret rfl (rfl) (⟨by rw [if_neg h5], rfl⟩)
def aBo (s : Nat → Int32) (k : Nat) (y : Int32) : Int32 := if y = nI 0 then s (46 + 3 * k) else if y = nI 1 then mPl s k else if y = nI 2 then s (46 + 3 * k + 2) else if y = nI 3 then (if s (46 + 3 * k + 2) < s 8 then 0 else 1) else -2
abbrev isBt (s : Nat → Int32) (x : Int32) : Prop := 0 < s 0 ∧ 0 ≤ x ∧ x ≤ 1
theorem c_M_boot {d P Bn Fn Wn : Nat} (hd : 2 ≤ d) (hi : LI P Bn Fn Wn s) (x y : Int32) : Cl d j_M_boot [.ref 50, .int x, .int y] (MS m0 v dx A LA s) (Pi (if isBt s x then aBo s x.toNatClampNeg y else -2) (MS m0 v dx A LA s)) := by
  show Rn d j_M_boot 0 _ _ _ _
  refine Rn.step (pc' := 1) rfl rfl ?_
  refine Rn.vi (pc' := 4) rfl (by decide) (by omega) rfl rfl rfl (c_M_isLane) ?_
  refine Rn.ifp_eq (pc1 := 17) (pc2 := 7) rfl rfl rfl (fun h4 => ?_) (fun h4 => ?_)
  · refine Rn.iconst (v := (-2)) (pc' := 19) rfl (by decide) rfl ?_
    exact Rn.iret rfl (rfl) (⟨by rw [if_neg (fun z => h4 z.1)], rfl⟩)
  · refine Rn.step (pc' := 8) rfl rfl ?_
    refine Rn.i2l (pc' := 9) rfl rfl ?_
    refine Rn.ldc2 (v := 0) (pc' := 10) rfl (by decide) rfl ?_
    refine Rn.ldc2 (v := 1) (pc' := 11) rfl (by decide) rfl ?_
    refine Rn.si (pc' := 14) rfl (by decide) (by omega) rfl rfl (c_M_inI x 0 1 rfl rfl) ?_
    refine Rn.ifp_ne (pc1 := 20) (pc2 := 17) rfl rfl rfl (fun h14 => ?_) (fun h14 => ?_)
    · obtain ⟨k, hk, rfl⟩ := x01 h14
      obtain ⟨hl, hw⟩ := hi.lane h4
      have ek : (nI k).toNatClampNeg = k := nI_clamp (by omega)
      refine Rn.step (pc' := 21) rfl rfl ?_
      rcases sw_cases y 3 (by omega) with hs21 | ⟨k21, hk21, rfl⟩
      · refine Rn.tsd (pc1 := 84) rfl hs21 rfl ?_
        refine Rn.iconst (v := (-2)) (pc' := 86) rfl (by decide) rfl ?_
        exact Rn.iret rfl (rfl) (⟨by
            rw [if_pos ⟨h4, h14⟩, ek]
            exact congrArg (fun z => some (Value.int z)) (Eq.symm (by
              unfold aBo
              rw [if_neg (sw_ne hs21 0 (by omega) (by omega)), if_neg (sw_ne hs21 1 (by omega) (by omega)), if_neg (sw_ne hs21 2 (by omega) (by omega)), if_neg (sw_ne hs21 3 (by omega) (by omega))])), rfl⟩)
      · match k21, hk21 with
        | 0, _ =>
          refine Rn.tsw (pc1 := 52) rfl (by decide) rfl rfl ?_
          refine Rn.step (pc' := 53) rfl rfl ?_
          refine Rn.step (pc' := 54) rfl rfl ?_
          refine Rn.vi (pc' := 57) rfl (by decide) (by omega) rfl rfl rfl (c_M_wearerOf k hk) ?_
          exact Rn.iret rfl (rfl) (⟨by
              rw [if_pos ⟨h4, h14⟩, ek]
              exact congrArg (fun z => some (Value.int z)) (Eq.symm (by
                unfold aBo
                rw [if_pos rfl])), rfl⟩)
        | 1, _ =>
          refine Rn.tsw (pc1 := 58) rfl (by decide) rfl rfl ?_
          refine Rn.step (pc' := 59) rfl rfl ?_
          refine Rn.step (pc' := 60) rfl rfl ?_
          refine Rn.vi (pc' := 63) rfl (by decide) (by omega) rfl rfl rfl (c_M_placeOf (by omega) k hk (LI.wrr hw hl.b6 k hk)) ?_
          exact Rn.iret rfl (rfl) (⟨by
              rw [if_pos ⟨h4, h14⟩, ek]
              exact congrArg (fun z => some (Value.int z)) (Eq.symm (by
                unfold aBo
                rw [if_neg (show ¬ nI 1 = nI 0 by decide), if_pos rfl])), rfl⟩)
        | 2, _ =>
          refine Rn.tsw (pc1 := 64) rfl (by decide) rfl rfl ?_
          refine Rn.step (pc' := 65) rfl rfl ?_
          refine Rn.step (pc' := 66) rfl rfl ?_
          refine Rn.vi (pc' := 69) rfl (by decide) (by omega) rfl rfl rfl (c_M_wornOf k hk) ?_
          exact Rn.iret rfl (rfl) (⟨by
              rw [if_pos ⟨h4, h14⟩, ek]
              exact congrArg (fun z => some (Value.int z)) (Eq.symm (by
                unfold aBo
                rw [if_neg (show ¬ nI 2 = nI 0 by decide), if_neg (show ¬ nI 2 = nI 1 by decide), if_pos rfl])), rfl⟩)
        | 3, _ =>
          refine Rn.tsw (pc1 := 70) rfl (by decide) rfl rfl ?_
          refine Rn.step (pc' := 71) rfl rfl ?_
          refine Rn.step (pc' := 72) rfl rfl ?_
          refine Rn.vi (pc' := 75) rfl (by decide) (by omega) rfl rfl rfl (c_M_isHoled (by omega) k hk) ?_
          refine Rn.ifq_eq (pc1 := 82) (pc2 := 78) rfl rfl rfl (fun h75 => ?_) (fun h75 => ?_)
          · refine Rn.iconst (v := 0) (pc' := 83) rfl (by decide) rfl ?_
            exact Rn.iret rfl (rfl) (⟨by
                rw [if_pos ⟨h4, h14⟩, ek]
                exact congrArg (fun z => some (Value.int z)) (Eq.symm (by
                  unfold aBo
                  rw [if_neg (show ¬ nI 3 = nI 0 by decide), if_neg (show ¬ nI 3 = nI 1 by decide), if_neg (show ¬ nI 3 = nI 2 by decide), if_pos rfl, if_pos h75])), rfl⟩)
          · refine Rn.iconst (v := 1) (pc' := 79) rfl (by decide) rfl ?_
            refine Rn.step (pc' := 83) rfl rfl ?_
            exact Rn.iret rfl (rfl) (⟨by
                rw [if_pos ⟨h4, h14⟩, ek]
                exact congrArg (fun z => some (Value.int z)) (Eq.symm (by
                  unfold aBo
                  rw [if_neg (show ¬ nI 3 = nI 0 by decide), if_neg (show ¬ nI 3 = nI 1 by decide), if_neg (show ¬ nI 3 = nI 2 by decide), if_pos rfl, if_neg h75])), rfl⟩)
    · refine Rn.iconst (v := (-2)) (pc' := 19) rfl (by decide) rfl ?_
      exact Rn.iret rfl (rfl) (⟨by rw [if_neg (fun z => h14 z.2)], rfl⟩)
def aCo (v s : Nat → Int32) (Bn : Nat) (y : Int32) : Int32 := if y = nI 0 then s 0 else if y = nI 1 then (if 0 < s 0 then s 1 else -1) else if y = nI 2 then s 2 else if y = nI 3 then s 3 else if y = nI 4 then s 4 else if y = nI 5 then v 2 else if y = nI 6 then v 21 else if y = nI 7 then s 5 else if y = nI 8 then s 6 else if y = nI 9 then mEa s Bn else if y = nI 10 then s 7 else if y = nI 11 then s 150 else if y = nI 12 then v 27 else if y = nI 13 then v 22 else if y = nI 14 then v 1 else if y = nI 15 then (if 0 < s 0 then s 8 else -1) else -1
theorem c_M_count {d Bn : Nat} (hd : 2 ≤ d) (hB : s 2 = nI Bn) (hB6 : Bn ≤ 6) (y : Int32) : Cl d j_M_count [.ref 50, .int y] (MS m0 v dx A LA s) (Pi (aCo v s Bn y) (MS m0 v dx A LA s)) := by
  show Rn d j_M_count 0 _ _ _ _
  refine Rn.step (pc' := 1) rfl rfl ?_
  rcases sw_cases y 15 (by omega) with hs1 | ⟨k1, hk1, rfl⟩
  · refine Rn.tsd (pc1 := 186) rfl hs1 rfl ?_
    refine Rn.iconst (v := (-1)) (pc' := 187) rfl (by decide) rfl ?_
    exact Rn.iret rfl (rfl) (⟨congrArg (fun z => some (Value.int z)) (Eq.symm (by
        unfold aCo
        rw [if_neg (sw_ne hs1 0 (by omega) (by omega)), if_neg (sw_ne hs1 1 (by omega) (by omega)), if_neg (sw_ne hs1 2 (by omega) (by omega)), if_neg (sw_ne hs1 3 (by omega) (by omega)), if_neg (sw_ne hs1 4 (by omega) (by omega)), if_neg (sw_ne hs1 5 (by omega) (by omega)), if_neg (sw_ne hs1 6 (by omega) (by omega)), if_neg (sw_ne hs1 7 (by omega) (by omega)), if_neg (sw_ne hs1 8 (by omega) (by omega)), if_neg (sw_ne hs1 9 (by omega) (by omega)), if_neg (sw_ne hs1 10 (by omega) (by omega)), if_neg (sw_ne hs1 11 (by omega) (by omega)), if_neg (sw_ne hs1 12 (by omega) (by omega)), if_neg (sw_ne hs1 13 (by omega) (by omega)), if_neg (sw_ne hs1 14 (by omega) (by omega)), if_neg (sw_ne hs1 15 (by omega) (by omega))])), rfl⟩)
  · match k1, hk1 with
    | 0, _ =>
      refine Rn.tsw (pc1 := 80) rfl (by decide) rfl rfl ?_
      refine Rn.step (pc' := 81) rfl rfl ?_
      refine Rn.getf (pc' := 84) rfl rfl rfl rfl rfl ?_
      refine Rn.step (pc' := 85) rfl rfl ?_
      refine Rn.sald (k := 0) (pc' := 86) rfl rfl (rfl) (by omega) (by decide) rfl ?_
      exact Rn.iret rfl (rfl) (⟨congrArg (fun z => some (Value.int z)) (Eq.symm (by
          unfold aCo
          rw [if_pos rfl])), rfl⟩)
    | 1, _ =>
      refine Rn.tsw (pc1 := 87) rfl (by decide) rfl rfl ?_
      refine Rn.step (pc' := 88) rfl rfl ?_
      refine Rn.vi (pc' := 91) rfl (by decide) (by omega) rfl rfl rfl (c_M_isLane) ?_
      refine Rn.ifp_eq (pc1 := 103) (pc2 := 94) rfl rfl rfl (fun h91 => ?_) (fun h91 => ?_)
      · refine Rn.iconst (v := (-1)) (pc' := 104) rfl (by decide) rfl ?_
        exact Rn.iret rfl (rfl) (⟨congrArg (fun z => some (Value.int z)) (Eq.symm (by
            unfold aCo
            rw [if_neg (show ¬ nI 1 = nI 0 by decide), if_pos rfl, if_neg h91])), rfl⟩)
      · refine Rn.step (pc' := 95) rfl rfl ?_
        refine Rn.getf (pc' := 98) rfl rfl rfl rfl rfl ?_
        refine Rn.iconst (v := 1) (pc' := 99) rfl (by decide) rfl ?_
        refine Rn.sald (k := 1) (pc' := 100) rfl rfl (by simp only [nI_lit, nI_add, pk_mul]) (by omega) (by decide) rfl ?_
        refine Rn.step (pc' := 104) rfl rfl ?_
        exact Rn.iret rfl (rfl) (⟨congrArg (fun z => some (Value.int z)) (Eq.symm (by
            unfold aCo
            rw [if_neg (show ¬ nI 1 = nI 0 by decide), if_pos rfl, if_pos h91])), rfl⟩)
    | 2, _ =>
      refine Rn.tsw (pc1 := 80) rfl (by decide) rfl rfl ?_
      refine Rn.step (pc' := 81) rfl rfl ?_
      refine Rn.getf (pc' := 84) rfl rfl rfl rfl rfl ?_
      refine Rn.step (pc' := 85) rfl rfl ?_
      refine Rn.sald (k := 2) (pc' := 86) rfl rfl (rfl) (by omega) (by decide) rfl ?_
      exact Rn.iret rfl (rfl) (⟨congrArg (fun z => some (Value.int z)) (Eq.symm (by
          unfold aCo
          rw [if_neg (show ¬ nI 2 = nI 0 by decide), if_neg (show ¬ nI 2 = nI 1 by decide), if_pos rfl])), rfl⟩)
    | 3, _ =>
      refine Rn.tsw (pc1 := 80) rfl (by decide) rfl rfl ?_
      refine Rn.step (pc' := 81) rfl rfl ?_
      refine Rn.getf (pc' := 84) rfl rfl rfl rfl rfl ?_
      refine Rn.step (pc' := 85) rfl rfl ?_
      refine Rn.sald (k := 3) (pc' := 86) rfl rfl (rfl) (by omega) (by decide) rfl ?_
      exact Rn.iret rfl (rfl) (⟨congrArg (fun z => some (Value.int z)) (Eq.symm (by
          unfold aCo
          rw [if_neg (show ¬ nI 3 = nI 0 by decide), if_neg (show ¬ nI 3 = nI 1 by decide), if_neg (show ¬ nI 3 = nI 2 by decide), if_pos rfl])), rfl⟩)
    | 4, _ =>
      refine Rn.tsw (pc1 := 80) rfl (by decide) rfl rfl ?_
      refine Rn.step (pc' := 81) rfl rfl ?_
      refine Rn.getf (pc' := 84) rfl rfl rfl rfl rfl ?_
      refine Rn.step (pc' := 85) rfl rfl ?_
      refine Rn.sald (k := 4) (pc' := 86) rfl rfl (rfl) (by omega) (by decide) rfl ?_
      exact Rn.iret rfl (rfl) (⟨congrArg (fun z => some (Value.int z)) (Eq.symm (by
          unfold aCo
          rw [if_neg (show ¬ nI 4 = nI 0 by decide), if_neg (show ¬ nI 4 = nI 1 by decide), if_neg (show ¬ nI 4 = nI 2 by decide), if_neg (show ¬ nI 4 = nI 3 by decide), if_pos rfl])), rfl⟩)
    | 5, _ =>
      refine Rn.tsw (pc1 := 105) rfl (by decide) rfl rfl ?_
      refine Rn.step (pc' := 106) rfl rfl ?_
      refine Rn.getf (pc' := 109) rfl rfl rfl rfl rfl ?_
      exact Rn.iret rfl (rfl) (⟨congrArg (fun z => some (Value.int z)) (Eq.symm (by
          unfold aCo
          rw [if_neg (show ¬ nI 5 = nI 0 by decide), if_neg (show ¬ nI 5 = nI 1 by decide), if_neg (show ¬ nI 5 = nI 2 by decide), if_neg (show ¬ nI 5 = nI 3 by decide), if_neg (show ¬ nI 5 = nI 4 by decide), if_pos rfl])), rfl⟩)
    | 6, _ =>
      refine Rn.tsw (pc1 := 110) rfl (by decide) rfl rfl ?_
      refine Rn.step (pc' := 111) rfl rfl ?_
      refine Rn.getf (pc' := 114) rfl rfl rfl rfl rfl ?_
      exact Rn.iret rfl (rfl) (⟨congrArg (fun z => some (Value.int z)) (Eq.symm (by
          unfold aCo
          rw [if_neg (show ¬ nI 6 = nI 0 by decide), if_neg (show ¬ nI 6 = nI 1 by decide), if_neg (show ¬ nI 6 = nI 2 by decide), if_neg (show ¬ nI 6 = nI 3 by decide), if_neg (show ¬ nI 6 = nI 4 by decide), if_neg (show ¬ nI 6 = nI 5 by decide), if_pos rfl])), rfl⟩)
    | 7, _ =>
      refine Rn.tsw (pc1 := 115) rfl (by decide) rfl rfl ?_
      refine Rn.step (pc' := 116) rfl rfl ?_
      refine Rn.getf (pc' := 119) rfl rfl rfl rfl rfl ?_
      refine Rn.iconst (v := 5) (pc' := 120) rfl (by decide) rfl ?_
      refine Rn.sald (k := 5) (pc' := 121) rfl rfl (by simp only [nI_lit, nI_add, pk_mul]) (by omega) (by decide) rfl ?_
      exact Rn.iret rfl (rfl) (⟨congrArg (fun z => some (Value.int z)) (Eq.symm (by
          unfold aCo
          rw [if_neg (show ¬ nI 7 = nI 0 by decide), if_neg (show ¬ nI 7 = nI 1 by decide), if_neg (show ¬ nI 7 = nI 2 by decide), if_neg (show ¬ nI 7 = nI 3 by decide), if_neg (show ¬ nI 7 = nI 4 by decide), if_neg (show ¬ nI 7 = nI 5 by decide), if_neg (show ¬ nI 7 = nI 6 by decide), if_pos rfl])), rfl⟩)
    | 8, _ =>
      refine Rn.tsw (pc1 := 122) rfl (by decide) rfl rfl ?_
      refine Rn.step (pc' := 123) rfl rfl ?_
      refine Rn.getf (pc' := 126) rfl rfl rfl rfl rfl ?_
      refine Rn.iconst (v := 6) (pc' := 128) rfl (by decide) rfl ?_
      refine Rn.sald (k := 6) (pc' := 129) rfl rfl (by simp only [nI_lit, nI_add, pk_mul]) (by omega) (by decide) rfl ?_
      exact Rn.iret rfl (rfl) (⟨congrArg (fun z => some (Value.int z)) (Eq.symm (by
          unfold aCo
          rw [if_neg (show ¬ nI 8 = nI 0 by decide), if_neg (show ¬ nI 8 = nI 1 by decide), if_neg (show ¬ nI 8 = nI 2 by decide), if_neg (show ¬ nI 8 = nI 3 by decide), if_neg (show ¬ nI 8 = nI 4 by decide), if_neg (show ¬ nI 8 = nI 5 by decide), if_neg (show ¬ nI 8 = nI 6 by decide), if_neg (show ¬ nI 8 = nI 7 by decide), if_pos rfl])), rfl⟩)
    | 9, _ =>
      refine Rn.tsw (pc1 := 130) rfl (by decide) rfl rfl ?_
      refine Rn.step (pc' := 131) rfl rfl ?_
      refine Rn.vi (pc' := 134) rfl (by decide) (by omega) rfl rfl rfl (c_M_earnedAll (by omega) hB hB6) ?_
      exact Rn.iret rfl (rfl) (⟨congrArg (fun z => some (Value.int z)) (Eq.symm (by
          unfold aCo
          rw [if_neg (show ¬ nI 9 = nI 0 by decide), if_neg (show ¬ nI 9 = nI 1 by decide), if_neg (show ¬ nI 9 = nI 2 by decide), if_neg (show ¬ nI 9 = nI 3 by decide), if_neg (show ¬ nI 9 = nI 4 by decide), if_neg (show ¬ nI 9 = nI 5 by decide), if_neg (show ¬ nI 9 = nI 6 by decide), if_neg (show ¬ nI 9 = nI 7 by decide), if_neg (show ¬ nI 9 = nI 8 by decide), if_pos rfl])), rfl⟩)
    | 10, _ =>
      refine Rn.tsw (pc1 := 135) rfl (by decide) rfl rfl ?_
      refine Rn.step (pc' := 136) rfl rfl ?_
      refine Rn.getf (pc' := 139) rfl rfl rfl rfl rfl ?_
      refine Rn.iconst (v := 7) (pc' := 141) rfl (by decide) rfl ?_
      refine Rn.sald (k := 7) (pc' := 142) rfl rfl (by simp only [nI_lit, nI_add, pk_mul]) (by omega) (by decide) rfl ?_
      exact Rn.iret rfl (rfl) (⟨congrArg (fun z => some (Value.int z)) (Eq.symm (by
          unfold aCo
          rw [if_neg (show ¬ nI 10 = nI 0 by decide), if_neg (show ¬ nI 10 = nI 1 by decide), if_neg (show ¬ nI 10 = nI 2 by decide), if_neg (show ¬ nI 10 = nI 3 by decide), if_neg (show ¬ nI 10 = nI 4 by decide), if_neg (show ¬ nI 10 = nI 5 by decide), if_neg (show ¬ nI 10 = nI 6 by decide), if_neg (show ¬ nI 10 = nI 7 by decide), if_neg (show ¬ nI 10 = nI 8 by decide), if_neg (show ¬ nI 10 = nI 9 by decide), if_pos rfl])), rfl⟩)
    | 11, _ =>
      refine Rn.tsw (pc1 := 143) rfl (by decide) rfl rfl ?_
      refine Rn.step (pc' := 144) rfl rfl ?_
      refine Rn.getf (pc' := 147) rfl rfl rfl rfl rfl ?_
      refine Rn.iconst (v := 150) (pc' := 150) rfl (by decide) rfl ?_
      refine Rn.sald (k := 150) (pc' := 151) rfl rfl (by simp only [nI_lit, nI_add, pk_mul]) (by omega) (by decide) rfl ?_
      exact Rn.iret rfl (rfl) (⟨congrArg (fun z => some (Value.int z)) (Eq.symm (by
          unfold aCo
          rw [if_neg (show ¬ nI 11 = nI 0 by decide), if_neg (show ¬ nI 11 = nI 1 by decide), if_neg (show ¬ nI 11 = nI 2 by decide), if_neg (show ¬ nI 11 = nI 3 by decide), if_neg (show ¬ nI 11 = nI 4 by decide), if_neg (show ¬ nI 11 = nI 5 by decide), if_neg (show ¬ nI 11 = nI 6 by decide), if_neg (show ¬ nI 11 = nI 7 by decide), if_neg (show ¬ nI 11 = nI 8 by decide), if_neg (show ¬ nI 11 = nI 9 by decide), if_neg (show ¬ nI 11 = nI 10 by decide), if_pos rfl])), rfl⟩)
    | 12, _ =>
      refine Rn.tsw (pc1 := 152) rfl (by decide) rfl rfl ?_
      refine Rn.step (pc' := 153) rfl rfl ?_
      refine Rn.getf (pc' := 156) rfl rfl rfl rfl rfl ?_
      exact Rn.iret rfl (rfl) (⟨congrArg (fun z => some (Value.int z)) (Eq.symm (by
          unfold aCo
          rw [if_neg (show ¬ nI 12 = nI 0 by decide), if_neg (show ¬ nI 12 = nI 1 by decide), if_neg (show ¬ nI 12 = nI 2 by decide), if_neg (show ¬ nI 12 = nI 3 by decide), if_neg (show ¬ nI 12 = nI 4 by decide), if_neg (show ¬ nI 12 = nI 5 by decide), if_neg (show ¬ nI 12 = nI 6 by decide), if_neg (show ¬ nI 12 = nI 7 by decide), if_neg (show ¬ nI 12 = nI 8 by decide), if_neg (show ¬ nI 12 = nI 9 by decide), if_neg (show ¬ nI 12 = nI 10 by decide), if_neg (show ¬ nI 12 = nI 11 by decide), if_pos rfl])), rfl⟩)
    | 13, _ =>
      refine Rn.tsw (pc1 := 157) rfl (by decide) rfl rfl ?_
      refine Rn.step (pc' := 158) rfl rfl ?_
      refine Rn.getf (pc' := 161) rfl rfl rfl rfl rfl ?_
      exact Rn.iret rfl (rfl) (⟨congrArg (fun z => some (Value.int z)) (Eq.symm (by
          unfold aCo
          rw [if_neg (show ¬ nI 13 = nI 0 by decide), if_neg (show ¬ nI 13 = nI 1 by decide), if_neg (show ¬ nI 13 = nI 2 by decide), if_neg (show ¬ nI 13 = nI 3 by decide), if_neg (show ¬ nI 13 = nI 4 by decide), if_neg (show ¬ nI 13 = nI 5 by decide), if_neg (show ¬ nI 13 = nI 6 by decide), if_neg (show ¬ nI 13 = nI 7 by decide), if_neg (show ¬ nI 13 = nI 8 by decide), if_neg (show ¬ nI 13 = nI 9 by decide), if_neg (show ¬ nI 13 = nI 10 by decide), if_neg (show ¬ nI 13 = nI 11 by decide), if_neg (show ¬ nI 13 = nI 12 by decide), if_pos rfl])), rfl⟩)
    | 14, _ =>
      refine Rn.tsw (pc1 := 162) rfl (by decide) rfl rfl ?_
      refine Rn.step (pc' := 163) rfl rfl ?_
      refine Rn.getf (pc' := 166) rfl rfl rfl rfl rfl ?_
      exact Rn.iret rfl (rfl) (⟨congrArg (fun z => some (Value.int z)) (Eq.symm (by
          unfold aCo
          rw [if_neg (show ¬ nI 14 = nI 0 by decide), if_neg (show ¬ nI 14 = nI 1 by decide), if_neg (show ¬ nI 14 = nI 2 by decide), if_neg (show ¬ nI 14 = nI 3 by decide), if_neg (show ¬ nI 14 = nI 4 by decide), if_neg (show ¬ nI 14 = nI 5 by decide), if_neg (show ¬ nI 14 = nI 6 by decide), if_neg (show ¬ nI 14 = nI 7 by decide), if_neg (show ¬ nI 14 = nI 8 by decide), if_neg (show ¬ nI 14 = nI 9 by decide), if_neg (show ¬ nI 14 = nI 10 by decide), if_neg (show ¬ nI 14 = nI 11 by decide), if_neg (show ¬ nI 14 = nI 12 by decide), if_neg (show ¬ nI 14 = nI 13 by decide), if_pos rfl])), rfl⟩)
    | 15, _ =>
      refine Rn.tsw (pc1 := 167) rfl (by decide) rfl rfl ?_
      refine Rn.step (pc' := 168) rfl rfl ?_
      refine Rn.vi (pc' := 171) rfl (by decide) (by omega) rfl rfl rfl (c_M_isLane) ?_
      refine Rn.ifp_eq (pc1 := 184) (pc2 := 174) rfl rfl rfl (fun h171 => ?_) (fun h171 => ?_)
      · refine Rn.iconst (v := (-1)) (pc' := 185) rfl (by decide) rfl ?_
        exact Rn.iret rfl (rfl) (⟨congrArg (fun z => some (Value.int z)) (Eq.symm (by
            unfold aCo
            rw [if_neg (show ¬ nI 15 = nI 0 by decide), if_neg (show ¬ nI 15 = nI 1 by decide), if_neg (show ¬ nI 15 = nI 2 by decide), if_neg (show ¬ nI 15 = nI 3 by decide), if_neg (show ¬ nI 15 = nI 4 by decide), if_neg (show ¬ nI 15 = nI 5 by decide), if_neg (show ¬ nI 15 = nI 6 by decide), if_neg (show ¬ nI 15 = nI 7 by decide), if_neg (show ¬ nI 15 = nI 8 by decide), if_neg (show ¬ nI 15 = nI 9 by decide), if_neg (show ¬ nI 15 = nI 10 by decide), if_neg (show ¬ nI 15 = nI 11 by decide), if_neg (show ¬ nI 15 = nI 12 by decide), if_neg (show ¬ nI 15 = nI 13 by decide), if_neg (show ¬ nI 15 = nI 14 by decide), if_pos rfl, if_neg h171])), rfl⟩)
      · refine Rn.step (pc' := 175) rfl rfl ?_
        refine Rn.getf (pc' := 178) rfl rfl rfl rfl rfl ?_
        refine Rn.iconst (v := 8) (pc' := 180) rfl (by decide) rfl ?_
        refine Rn.sald (k := 8) (pc' := 181) rfl rfl (by simp only [nI_lit, nI_add, pk_mul]) (by omega) (by decide) rfl ?_
        refine Rn.step (pc' := 185) rfl rfl ?_
        exact Rn.iret rfl (rfl) (⟨congrArg (fun z => some (Value.int z)) (Eq.symm (by
            unfold aCo
            rw [if_neg (show ¬ nI 15 = nI 0 by decide), if_neg (show ¬ nI 15 = nI 1 by decide), if_neg (show ¬ nI 15 = nI 2 by decide), if_neg (show ¬ nI 15 = nI 3 by decide), if_neg (show ¬ nI 15 = nI 4 by decide), if_neg (show ¬ nI 15 = nI 5 by decide), if_neg (show ¬ nI 15 = nI 6 by decide), if_neg (show ¬ nI 15 = nI 7 by decide), if_neg (show ¬ nI 15 = nI 8 by decide), if_neg (show ¬ nI 15 = nI 9 by decide), if_neg (show ¬ nI 15 = nI 10 by decide), if_neg (show ¬ nI 15 = nI 11 by decide), if_neg (show ¬ nI 15 = nI 12 by decide), if_neg (show ¬ nI 15 = nI 13 by decide), if_neg (show ¬ nI 15 = nI 14 by decide), if_pos rfl, if_pos h171])), rfl⟩)
    | kk + 16, h => exact absurd h (by omega)
end MD
