/-! THE LANGUAGE of lanes, told once for both: a state is a place and what is read. -/
section ND2
variable {m0 : xM} {v : Nat → Int32} {dx : Int64} {A : Nat → Nat → Int32} {LA : Nat → Nat → Int64} {s : Nat → Int32}
section V1
variable {T : Nat → Int32} {n p : Nat} {q : Nat → Int32}
abbrev gT : Type := Nat × (Nat → Int32)
abbrev gX : Type := Nat ⊕ gT
def gBx (x : gX) (f : gT → gX) : gX := match x with
  | .inl e => .inl e
  | .inr s => f s
/-- a NUMBER into a cell -/
def gNu (T : Nat → Int32) (n : Nat) (lo hi : Int32) (c : Nat) (s : gT) : gX := if kdE T n s.1 = 2 then (if nbE T n s.1 lo hi then .inr (nxE T n s.1, upd s.2 c (vlE T n s.1)) else .inl (1 + 8 * s.1 + 1)) else .inl (1 + 8 * s.1 + 0)
def cN (x : Int32) : Nat := x.toNatClampNeg
/-- a BROTHER is told -/
def gBr (b : Nat) (z : gT) : gX := .inr (z.1, upd (upd (upd (upd (upd z.2 (b + 1) (z.2 b)) (b + 3) 0) (b + 4) 0) (b + 5) 0) 2 (z.2 2 + 1))
def gKo (c : Nat) (z : gT) : gX := .inr (z.1, upd z.2 c (z.2 c + 1))
def gL1 (T : Nat → Int32) (n : Nat) (s : gT) : gX := gBx (gNu T n 2 10 0 s) (gNu T n 0 9 1)
def gL2 (T : Nat → Int32) (n b : Nat) (s : gT) : gX := gBx (gNu T n 0 (s.2 0 - 1) b s) (fun z => gBx (gNu T n 0 9 (b + 2) z) (gBr b))
def gL3 (T : Nat → Int32) (n : Nat) (s : gT) : gX := gBx (gNu T n 0 (s.2 0 - 1) 200 s) (fun z => gNu T n 0 9 (100 + cN (z.2 200)) (z.1, s.2))
def gL4 (T : Nat → Int32) (n f : Nat) (s : gT) : gX := gBx (gNu T n 0 23 f s) (fun z => gBx (gNu T n (z.2 f) 23 (f + 1) z) (gKo 3))
def gL5 (T : Nat → Int32) (n k : Nat) (s : gT) : gX := gBx (gNu T n 0 (s.2 2 - 1) k s) (fun a => gBx (gNu T n 0 (a.2 0 - 1) (k + 1) a) (fun b => gBx (gNu T n 0 23 (k + 2) b) (fun c => gBx (gNu T n 1 50 (k + 3) c) (gKo 4))))
def gF4 (p : Nat) : gX := .inl (1 + 8 * p + 4)
/-- a CLAUSE that begins with the word w at p -/
def gLw (T : Nat → Int32) (n p w : Nat) (q : Nat → Int32) : gX :=
  if w = 0 then (if 0 < q 0 then gF4 p else gL1 T n (nxE T n p, q))
  else if q 0 = 0 then gF4 p
  else if w = 1 then (if q 2 = 6 then gF4 p else gL2 T n (10 + 6 * cN (q 2)) (nxE T n p, q))
  else if w = 2 then gL3 T n (nxE T n p, q)
  else if w = 3 then (if q 3 = 4 then gF4 p else gL4 T n (52 + 2 * cN (q 3)) (nxE T n p, q))
  else if w = 4 then (if q 4 = 10 then gF4 p else gL5 T n (60 + 4 * cN (q 4)) (nxE T n p, q))
  else if w = 5 then (if 0 ≤ q 8 then gF4 p else gNu T n 1 99 8 (nxE T n p, q))
  else (if 0 ≤ q 9 then gF4 p else gNu T n 0 (q 0 - 1) 9 (nxE T n p, q))
def gLc (T : Nat → Int32) (n k : Nat) (s : gT) : gX := if wix T s.1 (leE T n s.1) ws0 0 < 0 then .inl (1 + 8 * s.1 + 0) else if k = 40 then gF4 s.1 else gLw T n s.1 (cN (wix T s.1 (leE T n s.1) ws0 0)) s.2
def gLz (T : Nat → Int32) (n : Nat) (ld : gT → gX) (z : gT) : gX := if sgE T n z.1 59 then ld (nxE T n z.1, z.2) else if kdE T n z.1 = 0 then .inr z else .inl (1 + 8 * z.1 + 0)
def gLd (T : Nat → Int32) (n : Nat) : Nat → Nat → gT → gX
  | 0, _, _ => .inl 0
  | f + 1, k, s => gBx (gLc T n k s) (gLz T n (gLd T n f (k + 1)))
/-- what may be read of a lane -/
abbrev LV (P Bn Fn Wn : Nat) (q : Nat → Int32) : Prop := (q 0 = nI P ∧ (P = 0 ∨ 2 ≤ P) ∧ P ≤ 10) ∧ (q 2 = nI Bn ∧ Bn ≤ 6) ∧ (q 3 = nI Fn ∧ Fn ≤ 4) ∧ (q 4 = nI Wn ∧ Wn ≤ 10) ∧ (∀ b, b < Bn → ∃ x, x < P ∧ q (10 + 6 * b) = nI x ∧ q (10 + 6 * b + 1) = nI x ∧ q (10 + 6 * b + 3) = 0 ∧ q (10 + 6 * b + 4) = 0 ∧ q (10 + 6 * b + 5) = 0) ∧ (∀ k, k < Wn → (∃ c, c < Bn ∧ q (60 + 4 * k) = nI c) ∧ (∃ x, x < P ∧ q (60 + 4 * k + 1) = nI x) ∧ ∃ h, h < 24 ∧ q (60 + 4 * k + 2) = nI h) ∧ (∀ x, x < 10 → ∃ z, z < 10 ∧ q (100 + x) = nI z) ∧ (q 5 = 0 ∧ q 6 = 0 ∧ q 7 = 0) ∧ (q 8 = -1 ∨ 0 ≤ q 8) ∧ (q 9 = -1 ∨ 0 ≤ q 9)
theorem gBx_r {x : gX} {f : gT → gX} {z : gT} (h : gBx x f = .inr z) : ∃ a, x = .inr a ∧ f a = .inr z := by
  cases x with
  | inl e => exact nomatch h
  | inr s => exact ⟨s, rfl, h⟩
theorem gNu_r {lo hi : Int32} {c : Nat} {s z : gT} (h : gNu T n lo hi c s = .inr z) : kdE T n s.1 = 2 ∧ nbE T n s.1 lo hi ∧ z = (nxE T n s.1, upd s.2 c (vlE T n s.1)) := by
  unfold gNu at h
  by_cases k : kdE T n s.1 = 2
  · rw [if_pos k] at h
    by_cases b : nbE T n s.1 lo hi
    · rw [if_pos b] at h
      exact ⟨k, b, (Sum.inr.inj h).symm⟩
    · rw [if_neg b] at h
      exact nomatch h
  · rw [if_neg k] at h
    exact nomatch h
/-- a number that lies between -/
theorem nb_x {lo hi : Int32} {l m : Nat} (hl : lo = nI l) (hm : hi = nI m) (hl2 : l < 2 ^ 31) (hm2 : m < 2 ^ 31) (h : nbE T n p lo hi) : ∃ x, l ≤ x ∧ x ≤ m ∧ vlE T n p = nI x := by
  obtain ⟨_, h1, h2⟩ := h
  subst hl hm
  obtain ⟨x, hx, e⟩ := xN (lo := nI l) (hi := nI m) (n := m) ((nI_leI (a := 0) (b := l) (by omega) hl2).mpr (Nat.zero_le _)) (nI_toInt hm2) ⟨h1, h2⟩
  refine ⟨x, ?_, hx, e⟩
  rw [e] at h1
  exact (nI_leI hl2 (by omega)).mp h1
theorem nb_0 {hi : Int32} {m : Nat} (hm : hi = nI m - 1) (hm2 : m ≤ 100) (h : nbE T n p 0 hi) : ∃ x, x < m ∧ vlE T n p = nI x := by
  subst hm
  by_cases h0 : m = 0
  · subst h0
    obtain ⟨_, h1, h2⟩ := h
    exact absurd (Int32.le_trans h1 h2) (by decide)
  · obtain ⟨x, _, hx, e⟩ := nb_x (l := 0) (m := m - 1) rfl (nI_subw (a := m) (b := 1) (by omega)) (by omega) (by omega) h
    exact ⟨x, by omega, e⟩
theorem upN (f : Nat → Int32) {k j : Nat} (x : Int32) (h : j ≠ k) : upd f k x j = f j := if_neg h
theorem upS (f : Nat → Int32) (k : Nat) (x : Int32) : upd f k x k = x := if_pos rfl

theorem nx_p {p : Nat} (h : kdE T n p = 2) : nxE T n p ≤ n := nx_le (Nat.le_of_lt (Nat.lt_of_not_le (fun z => by rw [kd0 z] at h; exact absurd h (by decide))))
theorem gL1_v {P Bn Fn Wn : Nat} {z : gT} (hv : LV P Bn Fn Wn q) (h0 : ¬ 0 < q 0) (h : gL1 T n (p, q) = .inr z) : ∃ P', LV P' Bn Fn Wn z.2 ∧ 2 ≤ P' ∧ z.1 ≤ n := by
  obtain ⟨⟨c0, c0a, c0b⟩, ⟨c1, c1a⟩, ⟨c2, c2a⟩, ⟨c3, c3a⟩, c4, c5, c6, ⟨c7, c7a, c7b⟩, c8, c9⟩ := hv
  obtain ⟨a, e1, e2⟩ := gBx_r h
  obtain ⟨k1, n1, rfl⟩ := gNu_r e1
  obtain ⟨k2, n2, rfl⟩ := gNu_r e2
  obtain ⟨x, x1, x2, x3⟩ := nb_x (l := 2) (m := 10) rfl rfl (by omega) (by omega) n1
  have hP : P = 0 := by
    rw [c0] at h0
    have := mt (nI_ltI (a := 0) (b := P) (by omega) (by omega)).mpr h0
    omega
  subst hP
  have hN : ∀ j, j ≠ 0 → j ≠ 1 → upd (upd q 0 (vlE T n p)) 1 (vlE T n (nxE T n p)) j = q j := fun j h1 h2 => by rw [upN _ _ h2, upN _ _ h1]
  refine ⟨x, ?_, x1, nx_p k2⟩
  dsimp only
  exact ⟨⟨by rw [upN _ _ (by decide), upS]; exact x3, Or.inr x1, x2⟩,
    ⟨(hN 2 (by omega) (by omega)).trans c1, c1a⟩,
    ⟨(hN 3 (by omega) (by omega)).trans c2, c2a⟩,
    ⟨(hN 4 (by omega) (by omega)).trans c3, c3a⟩,
    fun b hb => by obtain ⟨x, h1, _⟩ := c4 b hb; exact absurd h1 (Nat.not_lt_zero _),
    fun k hk => by obtain ⟨_, ⟨x, h1, _⟩, _⟩ := c5 k hk; exact absurd h1 (Nat.not_lt_zero _),
    fun x hx => by
      obtain ⟨y, h1, h2⟩ := c6 x hx
      exact ⟨y, h1, (hN _ (by omega) (by omega)).trans h2⟩,
    ⟨(hN 5 (by omega) (by omega)).trans c7, (hN 6 (by omega) (by omega)).trans c7a, (hN 7 (by omega) (by omega)).trans c7b⟩,
    by rw [hN 8 (by omega) (by omega)]; exact c8,
    by rw [hN 9 (by omega) (by omega)]; exact c9⟩
theorem gL2_v {P Bn Fn Wn : Nat} {z : gT} (hv : LV P Bn Fn Wn q) (h0 : Bn < 6) (h : gL2 T n (10 + 6 * Bn) (p, q) = .inr z) : LV P (Bn + 1) Fn Wn z.2 ∧ z.1 ≤ n := by
  obtain ⟨⟨c0, c0a, c0b⟩, ⟨c1, c1a⟩, ⟨c2, c2a⟩, ⟨c3, c3a⟩, c4, c5, c6, ⟨c7, c7a, c7b⟩, c8, c9⟩ := hv
  obtain ⟨a, e1, e2⟩ := gBx_r h
  obtain ⟨k1, n1, rfl⟩ := gNu_r e1
  obtain ⟨b, e2, e3⟩ := gBx_r e2
  obtain ⟨k2, n2, rfl⟩ := gNu_r e2
  obtain rfl := Sum.inr.inj e3
  obtain ⟨x, x1, x2⟩ := nb_0 (m := P) (by show q 0 - 1 = _; rw [c0]) (by omega) n1
  generalize hq : upd (upd (upd (upd (upd (upd (upd q (10 + 6 * Bn) (vlE T n p)) (10 + 6 * Bn + 2) (vlE T n (nxE T n p))) (10 + 6 * Bn + 1) (upd (upd q (10 + 6 * Bn) (vlE T n p)) (10 + 6 * Bn + 2) (vlE T n (nxE T n p)) (10 + 6 * Bn))) (10 + 6 * Bn + 3) 0) (10 + 6 * Bn + 4) 0) (10 + 6 * Bn + 5) 0) 2 (upd (upd q (10 + 6 * Bn) (vlE T n p)) (10 + 6 * Bn + 2) (vlE T n (nxE T n p)) 2 + 1) = q'
  have hN : ∀ j, j ≠ 2 → (j < 10 + 6 * Bn ∨ 16 + 6 * Bn ≤ j) → q' j = q j := fun j h1 h2 => by rw [← hq, upN _ _ (by omega), upN _ _ (by omega), upN _ _ (by omega), upN _ _ (by omega), upN _ _ (by omega), upN _ _ (by omega), upN _ _ (by omega)]
  have g2 : q' 2 = nI (Bn + 1) := by rw [← hq, upS, upN _ _ (by omega), upN _ _ (by omega), c1, nI_lit, nI_add]
  have g0 : q' (10 + 6 * Bn) = nI x := by rw [← hq, upN _ _ (by omega), upN _ _ (by omega), upN _ _ (by omega), upN _ _ (by omega), upN _ _ (by omega), upN _ _ (by omega), upS]; exact x2
  have g1 : q' (10 + 6 * Bn + 1) = nI x := by rw [← hq, upN _ _ (by omega), upN _ _ (by omega), upN _ _ (by omega), upN _ _ (by omega), upS, upN _ _ (by omega), upS]; exact x2
  have g3 : q' (10 + 6 * Bn + 3) = 0 := by rw [← hq, upN _ _ (by omega), upN _ _ (by omega), upN _ _ (by omega), upS]
  have g4 : q' (10 + 6 * Bn + 4) = 0 := by rw [← hq, upN _ _ (by omega), upN _ _ (by omega), upS]
  have g5 : q' (10 + 6 * Bn + 5) = 0 := by rw [← hq, upN _ _ (by omega), upS]
  refine ⟨?_, nx_p k2⟩
  dsimp only
  exact ⟨⟨(hN 0 (by omega) (by omega)).trans c0, c0a, c0b⟩,
    ⟨g2, by omega⟩,
    ⟨(hN 3 (by omega) (by omega)).trans c2, c2a⟩,
    ⟨(hN 4 (by omega) (by omega)).trans c3, c3a⟩,
    fun b hb => by
      by_cases e : b = Bn
      · subst e
        exact ⟨x, x1, g0, g1, g3, g4, g5⟩
      · obtain ⟨x, h1, h2, h3, h4, h5, h6⟩ := c4 b (by omega)
        exact ⟨x, h1, (hN _ (by omega) (by omega)).trans h2, (hN _ (by omega) (by omega)).trans h3, (hN _ (by omega) (by omega)).trans h4, (hN _ (by omega) (by omega)).trans h5, (hN _ (by omega) (by omega)).trans h6⟩,
    fun k hk => by
      obtain ⟨⟨c, h1, h2⟩, ⟨x, h3, h4⟩, ⟨h, h5, h6⟩⟩ := c5 k hk
      exact ⟨⟨c, by omega, (hN _ (by omega) (by omega)).trans h2⟩, ⟨x, h3, (hN _ (by omega) (by omega)).trans h4⟩, h, h5, (hN _ (by omega) (by omega)).trans h6⟩,
    fun x hx => by
      obtain ⟨y, h1, h2⟩ := c6 x hx
      exact ⟨y, h1, (hN _ (by omega) (by omega)).trans h2⟩,
    ⟨(hN 5 (by omega) (by omega)).trans c7, (hN 6 (by omega) (by omega)).trans c7a, (hN 7 (by omega) (by omega)).trans c7b⟩,
    by rw [hN 8 (by omega) (by omega)]; exact c8,
    by rw [hN 9 (by omega) (by omega)]; exact c9⟩
theorem gL3_v {P Bn Fn Wn : Nat} {z : gT} (hv : LV P Bn Fn Wn q) (h : gL3 T n (p, q) = .inr z) : LV P Bn Fn Wn z.2 ∧ z.1 ≤ n := by
  obtain ⟨⟨c0, c0a, c0b⟩, ⟨c1, c1a⟩, ⟨c2, c2a⟩, ⟨c3, c3a⟩, c4, c5, c6, ⟨c7, c7a, c7b⟩, c8, c9⟩ := hv
  obtain ⟨a, e1, e2⟩ := gBx_r h
  obtain ⟨k1, n1, rfl⟩ := gNu_r e1
  obtain ⟨k2, n2, rfl⟩ := gNu_r e2
  obtain ⟨x, x1, x2⟩ := nb_0 (m := P) (by show q 0 - 1 = _; rw [c0]) (by omega) n1
  obtain ⟨y, _, y1, y2⟩ := nb_x (l := 0) (m := 9) rfl rfl (by omega) (by omega) n2
  have hx : cN (upd q 200 (vlE T n p) 200) = x := by rw [upS, x2]; exact nI_clamp (by omega)
  refine ⟨?_, nx_p k2⟩
  show LV P Bn Fn Wn (upd q (100 + cN (upd q 200 (vlE T n p) 200)) (vlE T n (nxE T n p)))
  rw [hx]
  have hN : ∀ j, j ≠ 100 + x → upd q (100 + x) (vlE T n (nxE T n p)) j = q j := fun j h1 => upN _ _ h1
  exact ⟨⟨(hN 0 (by omega)).trans c0, c0a, c0b⟩,
    ⟨(hN 2 (by omega)).trans c1, c1a⟩,
    ⟨(hN 3 (by omega)).trans c2, c2a⟩,
    ⟨(hN 4 (by omega)).trans c3, c3a⟩,
    fun b hb => by
      obtain ⟨x, h1, h2, h3, h4, h5, h6⟩ := c4 b hb
      exact ⟨x, h1, (hN _ (by omega)).trans h2, (hN _ (by omega)).trans h3, (hN _ (by omega)).trans h4, (hN _ (by omega)).trans h5, (hN _ (by omega)).trans h6⟩,
    fun k hk => by
      obtain ⟨⟨c, h1, h2⟩, ⟨x, h3, h4⟩, ⟨h, h5, h6⟩⟩ := c5 k hk
      exact ⟨⟨c, h1, (hN _ (by omega)).trans h2⟩, ⟨x, h3, (hN _ (by omega)).trans h4⟩, h, h5, (hN _ (by omega)).trans h6⟩,
    fun u hu => by
      by_cases e : u = x
      · subst e
        exact ⟨y, by omega, (upS _ _ _).trans y2⟩
      · obtain ⟨y, h1, h2⟩ := c6 u hu
        exact ⟨y, h1, (hN _ (by omega)).trans h2⟩,
    ⟨(hN 5 (by omega)).trans c7, (hN 6 (by omega)).trans c7a, (hN 7 (by omega)).trans c7b⟩,
    by rw [hN 8 (by omega)]; exact c8,
    by rw [hN 9 (by omega)]; exact c9⟩
theorem gL4_v {P Bn Fn Wn : Nat} {z : gT} (hv : LV P Bn Fn Wn q) (h0 : Fn < 4) (h : gL4 T n (52 + 2 * Fn) (p, q) = .inr z) : LV P Bn (Fn + 1) Wn z.2 ∧ z.1 ≤ n := by
  obtain ⟨⟨c0, c0a, c0b⟩, ⟨c1, c1a⟩, ⟨c2, c2a⟩, ⟨c3, c3a⟩, c4, c5, c6, ⟨c7, c7a, c7b⟩, c8, c9⟩ := hv
  obtain ⟨a, e1, e2⟩ := gBx_r h
  obtain ⟨k1, n1, rfl⟩ := gNu_r e1
  obtain ⟨b, e2, e3⟩ := gBx_r e2
  obtain ⟨k2, n2, rfl⟩ := gNu_r e2
  obtain rfl := Sum.inr.inj e3
  have hN : ∀ j, j ≠ 3 → (j < 52 + 2 * Fn ∨ 54 + 2 * Fn ≤ j) → upd (upd (upd q (52 + 2 * Fn) (vlE T n p)) (52 + 2 * Fn + 1) (vlE T n (nxE T n p))) 3 (upd (upd q (52 + 2 * Fn) (vlE T n p)) (52 + 2 * Fn + 1) (vlE T n (nxE T n p)) 3 + 1) j = q j := fun j h1 h2 => by rw [upN _ _ (by omega), upN _ _ (by omega), upN _ _ (by omega)]
  refine ⟨?_, nx_p k2⟩
  dsimp only
  exact ⟨⟨(hN 0 (by omega) (by omega)).trans c0, c0a, c0b⟩,
    ⟨(hN 2 (by omega) (by omega)).trans c1, c1a⟩,
    ⟨by show upd _ 3 _ 3 = _; rw [upS]; show upd (upd q (52 + 2 * Fn) _) (52 + 2 * Fn + 1) _ 3 + 1 = _; rw [upN _ _ (by omega), upN _ _ (by omega), c2, nI_lit, nI_add], by omega⟩,
    ⟨(hN 4 (by omega) (by omega)).trans c3, c3a⟩,
    fun b hb => by
      obtain ⟨x, h1, h2, h3, h4, h5, h6⟩ := c4 b hb
      exact ⟨x, h1, (hN _ (by omega) (by omega)).trans h2, (hN _ (by omega) (by omega)).trans h3, (hN _ (by omega) (by omega)).trans h4, (hN _ (by omega) (by omega)).trans h5, (hN _ (by omega) (by omega)).trans h6⟩,
    fun k hk => by
      obtain ⟨⟨c, h1, h2⟩, ⟨x, h3, h4⟩, ⟨h, h5, h6⟩⟩ := c5 k hk
      exact ⟨⟨c, h1, (hN _ (by omega) (by omega)).trans h2⟩, ⟨x, h3, (hN _ (by omega) (by omega)).trans h4⟩, h, h5, (hN _ (by omega) (by omega)).trans h6⟩,
    fun x hx => by
      obtain ⟨y, h1, h2⟩ := c6 x hx
      exact ⟨y, h1, (hN _ (by omega) (by omega)).trans h2⟩,
    ⟨(hN 5 (by omega) (by omega)).trans c7, (hN 6 (by omega) (by omega)).trans c7a, (hN 7 (by omega) (by omega)).trans c7b⟩,
    by rw [hN 8 (by omega) (by omega)]; exact c8,
    by rw [hN 9 (by omega) (by omega)]; exact c9⟩
theorem gL5_v {P Bn Fn Wn : Nat} {z : gT} (hv : LV P Bn Fn Wn q) (h0 : Wn < 10) (h : gL5 T n (60 + 4 * Wn) (p, q) = .inr z) : LV P Bn Fn (Wn + 1) z.2 ∧ z.1 ≤ n := by
  obtain ⟨⟨c0, c0a, c0b⟩, ⟨c1, c1a⟩, ⟨c2, c2a⟩, ⟨c3, c3a⟩, c4, c5, c6, ⟨c7, c7a, c7b⟩, c8, c9⟩ := hv
  obtain ⟨a, e1, e2⟩ := gBx_r h
  obtain ⟨k1, n1, rfl⟩ := gNu_r e1
  obtain ⟨b, e2, e3⟩ := gBx_r e2
  obtain ⟨k2, n2, rfl⟩ := gNu_r e2
  obtain ⟨c, e3, e4⟩ := gBx_r e3
  obtain ⟨k3, n3, rfl⟩ := gNu_r e3
  obtain ⟨d, e4, e5⟩ := gBx_r e4
  obtain ⟨k4, n4, rfl⟩ := gNu_r e4
  obtain rfl := Sum.inr.inj e5
  obtain ⟨x, x1, x2⟩ := nb_0 (m := Bn) (by show q 2 - 1 = _; rw [c1]) (by omega) n1
  obtain ⟨y, y1, y2⟩ := nb_0 (m := P) (by show upd q (60 + 4 * Wn) _ 0 - 1 = _; rw [upN _ _ (by omega), c0]) (by omega) n2
  obtain ⟨u, _, u1, u2⟩ := nb_x (l := 0) (m := 23) rfl rfl (by omega) (by omega) n3
  generalize hq : upd (upd (upd (upd (upd q (60 + 4 * Wn) (vlE T n p)) (60 + 4 * Wn + 1) (vlE T n (nxE T n p))) (60 + 4 * Wn + 2) (vlE T n (nxE T n (nxE T n p)))) (60 + 4 * Wn + 3) (vlE T n (nxE T n (nxE T n (nxE T n p))))) 4 ((upd (upd (upd (upd q (60 + 4 * Wn) (vlE T n p)) (60 + 4 * Wn + 1) (vlE T n (nxE T n p))) (60 + 4 * Wn + 2) (vlE T n (nxE T n (nxE T n p)))) (60 + 4 * Wn + 3) (vlE T n (nxE T n (nxE T n (nxE T n p))))) 4 + 1) = q'
  have hN : ∀ j, j ≠ 4 → (j < 60 + 4 * Wn ∨ 64 + 4 * Wn ≤ j) → q' j = q j := fun j h1 h2 => by rw [← hq, upN _ _ (by omega), upN _ _ (by omega), upN _ _ (by omega), upN _ _ (by omega), upN _ _ (by omega)]
  have g4 : q' 4 = nI (Wn + 1) := by rw [← hq, upS, upN _ _ (by omega), upN _ _ (by omega), upN _ _ (by omega), upN _ _ (by omega), c3, nI_lit, nI_add]
  have g0 : q' (60 + 4 * Wn) = nI x := by rw [← hq, upN _ _ (by omega), upN _ _ (by omega), upN _ _ (by omega), upN _ _ (by omega), upS]; exact x2
  have g1 : q' (60 + 4 * Wn + 1) = nI y := by rw [← hq, upN _ _ (by omega), upN _ _ (by omega), upN _ _ (by omega), upS]; exact y2
  have g2 : q' (60 + 4 * Wn + 2) = nI u := by rw [← hq, upN _ _ (by omega), upN _ _ (by omega), upS]; exact u2
  refine ⟨?_, nx_p k4⟩
  dsimp only
  exact ⟨⟨(hN 0 (by omega) (by omega)).trans c0, c0a, c0b⟩,
    ⟨(hN 2 (by omega) (by omega)).trans c1, c1a⟩,
    ⟨(hN 3 (by omega) (by omega)).trans c2, c2a⟩,
    ⟨g4, by omega⟩,
    fun b hb => by
      obtain ⟨x, h1, h2, h3, h4, h5, h6⟩ := c4 b hb
      exact ⟨x, h1, (hN _ (by omega) (by omega)).trans h2, (hN _ (by omega) (by omega)).trans h3, (hN _ (by omega) (by omega)).trans h4, (hN _ (by omega) (by omega)).trans h5, (hN _ (by omega) (by omega)).trans h6⟩,
    fun k hk => by
      by_cases e : k = Wn
      · subst e
        exact ⟨⟨x, x1, g0⟩, ⟨y, y1, g1⟩, u, by omega, g2⟩
      · obtain ⟨⟨c, h1, h2⟩, ⟨x, h3, h4⟩, ⟨h, h5, h6⟩⟩ := c5 k (by omega)
        exact ⟨⟨c, h1, (hN _ (by omega) (by omega)).trans h2⟩, ⟨x, h3, (hN _ (by omega) (by omega)).trans h4⟩, h, h5, (hN _ (by omega) (by omega)).trans h6⟩,
    fun x hx => by
      obtain ⟨y, h1, h2⟩ := c6 x hx
      exact ⟨y, h1, (hN _ (by omega) (by omega)).trans h2⟩,
    ⟨(hN 5 (by omega) (by omega)).trans c7, (hN 6 (by omega) (by omega)).trans c7a, (hN 7 (by omega) (by omega)).trans c7b⟩,
    by rw [hN 8 (by omega) (by omega)]; exact c8,
    by rw [hN 9 (by omega) (by omega)]; exact c9⟩
theorem gL6_v {P Bn Fn Wn : Nat} {z : gT} (hv : LV P Bn Fn Wn q) (h : gNu T n 1 99 8 (p, q) = .inr z) : LV P Bn Fn Wn z.2 ∧ z.1 ≤ n := by
  obtain ⟨⟨c0, c0a, c0b⟩, ⟨c1, c1a⟩, ⟨c2, c2a⟩, ⟨c3, c3a⟩, c4, c5, c6, ⟨c7, c7a, c7b⟩, c8, c9⟩ := hv
  obtain ⟨k1, n1, rfl⟩ := gNu_r h
  have hN : ∀ j, j ≠ 8 → upd q 8 (vlE T n p) j = q j := fun j h1 => upN _ _ h1
  refine ⟨?_, nx_p k1⟩
  dsimp only
  exact ⟨⟨(hN 0 (by omega)).trans c0, c0a, c0b⟩,
    ⟨(hN 2 (by omega)).trans c1, c1a⟩,
    ⟨(hN 3 (by omega)).trans c2, c2a⟩,
    ⟨(hN 4 (by omega)).trans c3, c3a⟩,
    fun b hb => by
      obtain ⟨x, h1, h2, h3, h4, h5, h6⟩ := c4 b hb
      exact ⟨x, h1, (hN _ (by omega)).trans h2, (hN _ (by omega)).trans h3, (hN _ (by omega)).trans h4, (hN _ (by omega)).trans h5, (hN _ (by omega)).trans h6⟩,
    fun k hk => by
      obtain ⟨⟨c, h1, h2⟩, ⟨x, h3, h4⟩, ⟨h, h5, h6⟩⟩ := c5 k hk
      exact ⟨⟨c, h1, (hN _ (by omega)).trans h2⟩, ⟨x, h3, (hN _ (by omega)).trans h4⟩, h, h5, (hN _ (by omega)).trans h6⟩,
    fun x hx => by
      obtain ⟨y, h1, h2⟩ := c6 x hx
      exact ⟨y, h1, (hN _ (by omega)).trans h2⟩,
    ⟨(hN 5 (by omega)).trans c7, (hN 6 (by omega)).trans c7a, (hN 7 (by omega)).trans c7b⟩,
    by show upd q 8 _ 8 = -1 ∨ 0 ≤ upd q 8 _ 8; rw [upS]; exact Or.inr (Int32.le_trans (by decide) n1.2.1),
    by rw [hN 9 (by omega)]; exact c9⟩
theorem gL7_v {P Bn Fn Wn : Nat} {z : gT} (hv : LV P Bn Fn Wn q) (h : gNu T n 0 (q 0 - 1) 9 (p, q) = .inr z) : LV P Bn Fn Wn z.2 ∧ z.1 ≤ n := by
  obtain ⟨⟨c0, c0a, c0b⟩, ⟨c1, c1a⟩, ⟨c2, c2a⟩, ⟨c3, c3a⟩, c4, c5, c6, ⟨c7, c7a, c7b⟩, c8, c9⟩ := hv
  obtain ⟨k1, n1, rfl⟩ := gNu_r h
  have hN : ∀ j, j ≠ 9 → upd q 9 (vlE T n p) j = q j := fun j h1 => upN _ _ h1
  refine ⟨?_, nx_p k1⟩
  dsimp only
  exact ⟨⟨(hN 0 (by omega)).trans c0, c0a, c0b⟩,
    ⟨(hN 2 (by omega)).trans c1, c1a⟩,
    ⟨(hN 3 (by omega)).trans c2, c2a⟩,
    ⟨(hN 4 (by omega)).trans c3, c3a⟩,
    fun b hb => by
      obtain ⟨x, h1, h2, h3, h4, h5, h6⟩ := c4 b hb
      exact ⟨x, h1, (hN _ (by omega)).trans h2, (hN _ (by omega)).trans h3, (hN _ (by omega)).trans h4, (hN _ (by omega)).trans h5, (hN _ (by omega)).trans h6⟩,
    fun k hk => by
      obtain ⟨⟨c, h1, h2⟩, ⟨x, h3, h4⟩, ⟨h, h5, h6⟩⟩ := c5 k hk
      exact ⟨⟨c, h1, (hN _ (by omega)).trans h2⟩, ⟨x, h3, (hN _ (by omega)).trans h4⟩, h, h5, (hN _ (by omega)).trans h6⟩,
    fun x hx => by
      obtain ⟨y, h1, h2⟩ := c6 x hx
      exact ⟨y, h1, (hN _ (by omega)).trans h2⟩,
    ⟨(hN 5 (by omega)).trans c7, (hN 6 (by omega)).trans c7a, (hN 7 (by omega)).trans c7b⟩,
    by rw [hN 8 (by omega)]; exact c8,
    by show upd q 9 _ 9 = -1 ∨ 0 ≤ upd q 9 _ 9; rw [upS]; exact Or.inr (Int32.le_trans (by decide) n1.2.1)⟩
theorem LV.c2 {P Bn Fn Wn : Nat} (hv : LV P Bn Fn Wn q) : cN (q 2) = Bn := by rw [hv.2.1.1]; exact nI_clamp (by have := hv.2.1.2; omega)
theorem LV.c3 {P Bn Fn Wn : Nat} (hv : LV P Bn Fn Wn q) : cN (q 3) = Fn := by rw [hv.2.2.1.1]; exact nI_clamp (by have := hv.2.2.1.2; omega)
theorem LV.c4 {P Bn Fn Wn : Nat} (hv : LV P Bn Fn Wn q) : cN (q 4) = Wn := by rw [hv.2.2.2.1.1]; exact nI_clamp (by have := hv.2.2.2.1.2; omega)
theorem LV.n2 {P Bn Fn Wn : Nat} (hv : LV P Bn Fn Wn q) (h : ¬ q 2 = 6) : Bn < 6 := by
  have h1 := hv.2.1
  have : ¬ Bn = 6 := fun z => h (by rw [h1.1, z]; rfl)
  omega
theorem LV.n3 {P Bn Fn Wn : Nat} (hv : LV P Bn Fn Wn q) (h : ¬ q 3 = 4) : Fn < 4 := by
  have h1 := hv.2.2.1
  have : ¬ Fn = 4 := fun z => h (by rw [h1.1, z]; rfl)
  omega
theorem LV.n4 {P Bn Fn Wn : Nat} (hv : LV P Bn Fn Wn q) (h : ¬ q 4 = 10) : Wn < 10 := by
  have h1 := hv.2.2.2.1
  have : ¬ Wn = 10 := fun z => h (by rw [h1.1, z]; rfl)
  omega
theorem LV.p2 {P Bn Fn Wn : Nat} (hv : LV P Bn Fn Wn q) (h : ¬ q 0 = 0) : 2 ≤ P := by
  have h1 := hv.1
  have : ¬ P = 0 := fun z => h (by rw [h1.1, z]; rfl)
  omega
theorem gLw_v {P Bn Fn Wn w : Nat} {z : gT} (hv : LV P Bn Fn Wn q) (h : gLw T n p w q = .inr z) : ∃ P' Bn' Fn' Wn', LV P' Bn' Fn' Wn' z.2 ∧ 2 ≤ P' ∧ z.1 ≤ n := by
  unfold gLw at h
  by_cases w0 : w = 0
  · rw [if_pos w0] at h
    by_cases h0 : 0 < q 0
    · rw [if_pos h0] at h
      exact nomatch h
    · rw [if_neg h0] at h
      obtain ⟨P', a, b, c⟩ := gL1_v hv h0 h
      exact ⟨P', _, _, _, a, b, c⟩
  · rw [if_neg w0] at h
    by_cases h0 : q 0 = 0
    · rw [if_pos h0] at h
      exact nomatch h
    · rw [if_neg h0] at h
      have hp := hv.p2 h0
      by_cases w1 : w = 1
      · rw [if_pos w1] at h
        by_cases h2 : q 2 = 6
        · rw [if_pos h2] at h
          exact nomatch h
        · rw [if_neg h2, hv.c2] at h
          obtain ⟨a, b⟩ := gL2_v hv (hv.n2 h2) h
          exact ⟨_, _, _, _, a, hp, b⟩
      · rw [if_neg w1] at h
        by_cases w2 : w = 2
        · rw [if_pos w2] at h
          obtain ⟨a, b⟩ := gL3_v hv h
          exact ⟨_, _, _, _, a, hp, b⟩
        · rw [if_neg w2] at h
          by_cases w3 : w = 3
          · rw [if_pos w3] at h
            by_cases h2 : q 3 = 4
            · rw [if_pos h2] at h
              exact nomatch h
            · rw [if_neg h2, hv.c3] at h
              obtain ⟨a, b⟩ := gL4_v hv (hv.n3 h2) h
              exact ⟨_, _, _, _, a, hp, b⟩
          · rw [if_neg w3] at h
            by_cases w4 : w = 4
            · rw [if_pos w4] at h
              by_cases h2 : q 4 = 10
              · rw [if_pos h2] at h
                exact nomatch h
              · rw [if_neg h2, hv.c4] at h
                obtain ⟨a, b⟩ := gL5_v hv (hv.n4 h2) h
                exact ⟨_, _, _, _, a, hp, b⟩
            · rw [if_neg w4] at h
              by_cases w5 : w = 5
              · rw [if_pos w5] at h
                by_cases h2 : 0 ≤ q 8
                · rw [if_pos h2] at h
                  exact nomatch h
                · rw [if_neg h2] at h
                  obtain ⟨a, b⟩ := gL6_v hv h
                  exact ⟨_, _, _, _, a, hp, b⟩
              · rw [if_neg w5] at h
                by_cases h2 : 0 ≤ q 9
                · rw [if_pos h2] at h
                  exact nomatch h
                · rw [if_neg h2] at h
                  obtain ⟨a, b⟩ := gL7_v hv h
                  exact ⟨_, _, _, _, a, hp, b⟩
theorem gLc_v {P Bn Fn Wn k : Nat} {s z : gT} (hv : LV P Bn Fn Wn s.2) (h : gLc T n k s = .inr z) : ∃ P' Bn' Fn' Wn', LV P' Bn' Fn' Wn' z.2 ∧ 2 ≤ P' ∧ z.1 ≤ n ∧ k ≠ 40 := by
  unfold gLc at h
  by_cases h0 : wix T s.1 (leE T n s.1) ws0 0 < 0
  · rw [if_pos h0] at h
    exact nomatch h
  · rw [if_neg h0] at h
    by_cases h1 : k = 40
    · rw [if_pos h1] at h
      exact nomatch h
    · rw [if_neg h1] at h
      obtain ⟨P', a, b, c, e, f, g⟩ := gLw_v hv h
      exact ⟨P', a, b, c, e, f, g, h1⟩
theorem gLd_v : ∀ (f k : Nat) (s z : gT) (P Bn Fn Wn : Nat), LV P Bn Fn Wn s.2 → gLd T n f k s = .inr z → ∃ P' Bn' Fn' Wn', LV P' Bn' Fn' Wn' z.2 ∧ 2 ≤ P'
  | 0, _, _, _, _, _, _, _, _, h => nomatch h
  | f + 1, k, s, z, P, Bn, Fn, Wn, hv, h => by
    obtain ⟨a, e1, e2⟩ := gBx_r h
    obtain ⟨P', b1, c1, d1, g1, g2, _⟩ := gLc_v hv e1
    unfold gLz at e2
    by_cases h1 : sgE T n a.1 59
    · rw [if_pos h1] at e2
      exact gLd_v f (k + 1) (nxE T n a.1, a.2) z _ _ _ _ g1 e2
    · rw [if_neg h1] at e2
      by_cases h2 : kdE T n a.1 = 0
      · rw [if_pos h2] at e2
        obtain rfl := Sum.inr.inj e2
        exact ⟨_, _, _, _, g1, g2⟩
      · rw [if_neg h2] at e2
        exact nomatch e2
end V1
end ND2
