/-! RULES OF THE CALCULUS, CLEAN FORMS; calls whose answer is told. -/
section RN2
variable {d j pc len pc' : Nat} {ls st : List Value} {m m1 : xM} {P : Option Value → xM → Prop}
theorem Rn.iadd {x y : Int32} (hG : xG j pc = some (.iadd, len)) (hp : pc + len = pc') (k : Rn d j pc' ls (.int (x + y) :: st) m P) : Rn d j pc ls (.int y :: .int x :: st) m P := by
  subst hp
  exact Rn.step hG rfl k
theorem Rn.isub {x y : Int32} (hG : xG j pc = some (.isub, len)) (hp : pc + len = pc') (k : Rn d j pc' ls (.int (x - y) :: st) m P) : Rn d j pc ls (.int y :: .int x :: st) m P := by
  subst hp
  exact Rn.step hG rfl k
theorem Rn.imul {x y : Int32} (hG : xG j pc = some (.imul, len)) (hp : pc + len = pc') (k : Rn d j pc' ls (.int (x * y) :: st) m P) : Rn d j pc ls (.int y :: .int x :: st) m P := by
  subst hp
  exact Rn.step hG rfl k
theorem Rn.iand {x y : Int32} (hG : xG j pc = some (.iand, len)) (hp : pc + len = pc') (k : Rn d j pc' ls (.int (x &&& y) :: st) m P) : Rn d j pc ls (.int y :: .int x :: st) m P := by
  subst hp
  exact Rn.step hG rfl k
theorem Rn.ior {x y : Int32} (hG : xG j pc = some (.ior, len)) (hp : pc + len = pc') (k : Rn d j pc' ls (.int (x ||| y) :: st) m P) : Rn d j pc ls (.int y :: .int x :: st) m P := by
  subst hp
  exact Rn.step hG rfl k
theorem Rn.ishl {x y : Int32} (hG : xG j pc = some (.ishl, len)) (hp : pc + len = pc') (k : Rn d j pc' ls (.int (x <<< (y &&& 31)) :: st) m P) : Rn d j pc ls (.int y :: .int x :: st) m P := by
  subst hp
  exact Rn.step hG rfl k
theorem Rn.ishr {x y : Int32} (hG : xG j pc = some (.ishr, len)) (hp : pc + len = pc') (k : Rn d j pc' ls (.int (x >>> (y &&& 31)) :: st) m P) : Rn d j pc ls (.int y :: .int x :: st) m P := by
  subst hp
  exact Rn.step hG rfl k
theorem Rn.iushr {x y : Int32} (hG : xG j pc = some (.iushr, len)) (hp : pc + len = pc') (k : Rn d j pc' ls (.int ((x.toUInt32 >>> (y.toUInt32 &&& Int32.toUInt32 31)).toInt32) :: st) m P) : Rn d j pc ls (.int y :: .int x :: st) m P := by
  subst hp
  exact Rn.step hG rfl k
theorem Rn.ladd {x y : Int64} (hG : xG j pc = some (.ladd, len)) (hp : pc + len = pc') (k : Rn d j pc' ls (.long (x + y) :: st) m P) : Rn d j pc ls (.long y :: .long x :: st) m P := by
  subst hp
  exact Rn.step hG rfl k
theorem Rn.lsub {x y : Int64} (hG : xG j pc = some (.lsub, len)) (hp : pc + len = pc') (k : Rn d j pc' ls (.long (x - y) :: st) m P) : Rn d j pc ls (.long y :: .long x :: st) m P := by
  subst hp
  exact Rn.step hG rfl k
theorem Rn.lmul {x y : Int64} (hG : xG j pc = some (.lmul, len)) (hp : pc + len = pc') (k : Rn d j pc' ls (.long (x * y) :: st) m P) : Rn d j pc ls (.long y :: .long x :: st) m P := by
  subst hp
  exact Rn.step hG rfl k
theorem Rn.land {x y : Int64} (hG : xG j pc = some (.land, len)) (hp : pc + len = pc') (k : Rn d j pc' ls (.long (x &&& y) :: st) m P) : Rn d j pc ls (.long y :: .long x :: st) m P := by
  subst hp
  exact Rn.step hG rfl k
theorem Rn.lor {x y : Int64} (hG : xG j pc = some (.lor, len)) (hp : pc + len = pc') (k : Rn d j pc' ls (.long (x ||| y) :: st) m P) : Rn d j pc ls (.long y :: .long x :: st) m P := by
  subst hp
  exact Rn.step hG rfl k
theorem Rn.lshl {x : Int64} {y : Int32} (hG : xG j pc = some (.lshl, len)) (hp : pc + len = pc') (k : Rn d j pc' ls (.long (x <<< (y.toInt64 &&& 63)) :: st) m P) : Rn d j pc ls (.int y :: .long x :: st) m P := by
  subst hp
  exact Rn.step hG rfl k
theorem Rn.lcmp {x y : Int64} (hG : xG j pc = some (.lcmp, len)) (hp : pc + len = pc') (k : Rn d j pc' ls (.int (lg_cmp x y) :: st) m P) : Rn d j pc ls (.long y :: .long x :: st) m P := by
  subst hp
  exact Rn.step hG rfl k
theorem Rn.i2l {x : Int32} (hG : xG j pc = some (.i2l, len)) (hp : pc + len = pc') (k : Rn d j pc' ls (.long x.toInt64 :: st) m P) : Rn d j pc ls (.int x :: st) m P := by
  subst hp
  exact Rn.step hG rfl k
theorem Rn.l2i {x : Int64} (hG : xG j pc = some (.l2i, len)) (hp : pc + len = pc') (k : Rn d j pc' ls (.int x.toInt32 :: st) m P) : Rn d j pc ls (.long x :: st) m P := by
  subst hp
  exact Rn.step hG rfl k
theorem Rn.i2b {x : Int32} (hG : xG j pc = some (.i2b, len)) (hp : pc + len = pc') (k : Rn d j pc' ls (.int x.toInt8.toInt32 :: st) m P) : Rn d j pc ls (.int x :: st) m P := by
  subst hp
  exact Rn.step hG rfl k
theorem Rn.i2c {x : Int32} (hG : xG j pc = some (.i2c, len)) (hp : pc + len = pc') (k : Rn d j pc' ls (.int (x.toUInt32 % 65536).toInt32 :: st) m P) : Rn d j pc ls (.int x :: st) m P := by
  subst hp
  exact Rn.step hG rfl k
theorem Rn.idiv {x y : Int32} (hG : xG j pc = some (.idiv, len)) (hn : ¬ y = 0) (hp : pc + len = pc') (k : Rn d j pc' ls (.int (x / y) :: st) m P) : Rn d j pc ls (.int y :: .int x :: st) m P := by
  subst hp
  exact Rn.step hG (by simp only [xs, if_neg hn]) k
theorem Rn.irem {x y : Int32} (hG : xG j pc = some (.irem, len)) (hn : ¬ y = 0) (hp : pc + len = pc') (k : Rn d j pc' ls (.int (x - x / y * y) :: st) m P) : Rn d j pc ls (.int y :: .int x :: st) m P := by
  subst hp
  exact Rn.step hG (by simp only [xs, if_neg hn]) k
theorem Rn.ldiv {x y : Int64} (hG : xG j pc = some (.ldiv, len)) (hn : ¬ y = 0) (hp : pc + len = pc') (k : Rn d j pc' ls (.long (x / y) :: st) m P) : Rn d j pc ls (.long y :: .long x :: st) m P := by
  subst hp
  exact Rn.step hG (by simp only [xs, if_neg hn]) k
theorem Rn.lrem {x y : Int64} (hG : xG j pc = some (.lrem, len)) (hn : ¬ y = 0) (hp : pc + len = pc') (k : Rn d j pc' ls (.long (x - x / y * y) :: st) m P) : Rn d j pc ls (.long y :: .long x :: st) m P := by
  subst hp
  exact Rn.step hG (by simp only [xs, if_neg hn]) k
/-- what is told of an answer and of the memory behind it -/
abbrev Pi (x : Int32) (m1 : xM) : Option Value → xM → Prop := fun r m' => r = some (.int x) ∧ m' = m1
abbrev Pg (x : Int64) (m1 : xM) : Option Value → xM → Prop := fun r m' => r = some (.long x) ∧ m' = m1
abbrev Pa (x : Nat) (m1 : xM) : Option Value → xM → Prop := fun r m' => r = some (.ref x) ∧ m' = m1
abbrev Pv (m1 : xM) : Option Value → xM → Prop := fun r m' => r = none ∧ m' = m1
theorem Rn.reti {v x : Int32} (hG : xG j pc = some (.ireturn, len)) (hn : narrow (xrk j) (.int v) = .int v) (hv : v = x) (hm : m = m1) : Rn d j pc ls [.int v] m (Pi x m1) := Rn.iret hG hn ⟨by rw [hv], hm⟩
theorem Rn.retl {v x : Int64} (hG : xG j pc = some (.lreturn, len)) (hv : v = x) (hm : m = m1) : Rn d j pc ls [.long v] m (Pg x m1) := Rn.lret hG ⟨by rw [hv], hm⟩
theorem Rn.retv (hG : xG j pc = some (.return_, len)) (hm : m = m1) : Rn d j pc ls [] m (Pv m1) := Rn.vret hG ⟨rfl, hm⟩
theorem Rn.reta {v x : Nat} (hG : xG j pc = some (.areturn, len)) (hl : v < xS) (hv : v = x) (hm : m = m1) : Rn d j pc ls [.ref v] m (Pa x m1) := Rn.aret hG hl ⟨by rw [hv], hm⟩
theorem Rn.vi {k : Nat} {as rest : List Value} {x : Int32} (hG : xG j pc = some (.invokevirtual k, len)) (hk : k ≠ 9997) (hd : 0 < d) (ha : x_arg xna xmx k st = some (as, rest)) (hr : x_rcv xrc k m as = true) (hp : pc + len = pc') (hc : Cl (d - 1) k as m (Pi x m1)) (kk : Rn d j pc' ls (.int x :: rest) m1 P) : Rn d j pc ls st m P := Rn.callV hG hk hd ha hr hp hc (fun _ _ h => by
  obtain ⟨rfl, rfl⟩ := h
  exact kk)
theorem Rn.si {k : Nat} {as rest : List Value} {x : Int32} (hG : xG j pc = some (.invokestatic k, len)) (hk : k ≠ 9998) (hd : 0 < d) (ha : x_arg xna xmx k st = some (as, rest)) (hp : pc + len = pc') (hc : Cl (d - 1) k as m (Pi x m1)) (kk : Rn d j pc' ls (.int x :: rest) m1 P) : Rn d j pc ls st m P := Rn.callS hG hk hd ha hp hc (fun _ _ h => by
  obtain ⟨rfl, rfl⟩ := h
  exact kk)
theorem Rn.vg {k : Nat} {as rest : List Value} {x : Int64} (hG : xG j pc = some (.invokevirtual k, len)) (hk : k ≠ 9997) (hd : 0 < d) (ha : x_arg xna xmx k st = some (as, rest)) (hr : x_rcv xrc k m as = true) (hp : pc + len = pc') (hc : Cl (d - 1) k as m (Pg x m1)) (kk : Rn d j pc' ls (.long x :: rest) m1 P) : Rn d j pc ls st m P := Rn.callV hG hk hd ha hr hp hc (fun _ _ h => by
  obtain ⟨rfl, rfl⟩ := h
  exact kk)
theorem Rn.sg {k : Nat} {as rest : List Value} {x : Int64} (hG : xG j pc = some (.invokestatic k, len)) (hk : k ≠ 9998) (hd : 0 < d) (ha : x_arg xna xmx k st = some (as, rest)) (hp : pc + len = pc') (hc : Cl (d - 1) k as m (Pg x m1)) (kk : Rn d j pc' ls (.long x :: rest) m1 P) : Rn d j pc ls st m P := Rn.callS hG hk hd ha hp hc (fun _ _ h => by
  obtain ⟨rfl, rfl⟩ := h
  exact kk)
theorem Rn.va {k : Nat} {as rest : List Value} {x : Nat} (hG : xG j pc = some (.invokevirtual k, len)) (hk : k ≠ 9997) (hd : 0 < d) (ha : x_arg xna xmx k st = some (as, rest)) (hr : x_rcv xrc k m as = true) (hp : pc + len = pc') (hc : Cl (d - 1) k as m (Pa x m1)) (kk : Rn d j pc' ls (.ref x :: rest) m1 P) : Rn d j pc ls st m P := Rn.callV hG hk hd ha hr hp hc (fun _ _ h => by
  obtain ⟨rfl, rfl⟩ := h
  exact kk)
theorem Rn.sa {k : Nat} {as rest : List Value} {x : Nat} (hG : xG j pc = some (.invokestatic k, len)) (hk : k ≠ 9998) (hd : 0 < d) (ha : x_arg xna xmx k st = some (as, rest)) (hp : pc + len = pc') (hc : Cl (d - 1) k as m (Pa x m1)) (kk : Rn d j pc' ls (.ref x :: rest) m1 P) : Rn d j pc ls st m P := Rn.callS hG hk hd ha hp hc (fun _ _ h => by
  obtain ⟨rfl, rfl⟩ := h
  exact kk)
theorem Rn.vv {k : Nat} {as rest : List Value} (hG : xG j pc = some (.invokevirtual k, len)) (hk : k ≠ 9997) (hd : 0 < d) (ha : x_arg xna xmx k st = some (as, rest)) (hr : x_rcv xrc k m as = true) (hp : pc + len = pc') (hc : Cl (d - 1) k as m (Pv m1)) (kk : Rn d j pc' ls (rest) m1 P) : Rn d j pc ls st m P := Rn.callV hG hk hd ha hr hp hc (fun _ _ h => by
  obtain ⟨rfl, rfl⟩ := h
  exact kk)
theorem Rn.sv {k : Nat} {as rest : List Value} (hG : xG j pc = some (.invokestatic k, len)) (hk : k ≠ 9998) (hd : 0 < d) (ha : x_arg xna xmx k st = some (as, rest)) (hp : pc + len = pc') (hc : Cl (d - 1) k as m (Pv m1)) (kk : Rn d j pc' ls (rest) m1 P) : Rn d j pc ls st m P := Rn.callS hG hk hd ha hp hc (fun _ _ h => by
  obtain ⟨rfl, rfl⟩ := h
  exact kk)
theorem Rn.ls1 {a0 b0 : Value} (h0 : a0 = b0) (k : Rn d j pc [b0] st m P) : Rn d j pc [a0] st m P := by
  subst h0
  exact k
theorem Rn.ls2 {a0 a1 b0 b1 : Value} (h0 : a0 = b0) (h1 : a1 = b1) (k : Rn d j pc [b0, b1] st m P) : Rn d j pc [a0, a1] st m P := by
  subst h0 h1
  exact k
theorem Rn.ls3 {a0 a1 a2 b0 b1 b2 : Value} (h0 : a0 = b0) (h1 : a1 = b1) (h2 : a2 = b2) (k : Rn d j pc [b0, b1, b2] st m P) : Rn d j pc [a0, a1, a2] st m P := by
  subst h0 h1 h2
  exact k
theorem Rn.ls4 {a0 a1 a2 a3 b0 b1 b2 b3 : Value} (h0 : a0 = b0) (h1 : a1 = b1) (h2 : a2 = b2) (h3 : a3 = b3) (k : Rn d j pc [b0, b1, b2, b3] st m P) : Rn d j pc [a0, a1, a2, a3] st m P := by
  subst h0 h1 h2 h3
  exact k
theorem Rn.ls5 {a0 a1 a2 a3 a4 b0 b1 b2 b3 b4 : Value} (h0 : a0 = b0) (h1 : a1 = b1) (h2 : a2 = b2) (h3 : a3 = b3) (h4 : a4 = b4) (k : Rn d j pc [b0, b1, b2, b3, b4] st m P) : Rn d j pc [a0, a1, a2, a3, a4] st m P := by
  subst h0 h1 h2 h3 h4
  exact k
theorem Rn.ls6 {a0 a1 a2 a3 a4 a5 b0 b1 b2 b3 b4 b5 : Value} (h0 : a0 = b0) (h1 : a1 = b1) (h2 : a2 = b2) (h3 : a3 = b3) (h4 : a4 = b4) (h5 : a5 = b5) (k : Rn d j pc [b0, b1, b2, b3, b4, b5] st m P) : Rn d j pc [a0, a1, a2, a3, a4, a5] st m P := by
  subst h0 h1 h2 h3 h4 h5
  exact k
theorem Rn.ls7 {a0 a1 a2 a3 a4 a5 a6 b0 b1 b2 b3 b4 b5 b6 : Value} (h0 : a0 = b0) (h1 : a1 = b1) (h2 : a2 = b2) (h3 : a3 = b3) (h4 : a4 = b4) (h5 : a5 = b5) (h6 : a6 = b6) (k : Rn d j pc [b0, b1, b2, b3, b4, b5, b6] st m P) : Rn d j pc [a0, a1, a2, a3, a4, a5, a6] st m P := by
  subst h0 h1 h2 h3 h4 h5 h6
  exact k
theorem Rn.ls8 {a0 a1 a2 a3 a4 a5 a6 a7 b0 b1 b2 b3 b4 b5 b6 b7 : Value} (h0 : a0 = b0) (h1 : a1 = b1) (h2 : a2 = b2) (h3 : a3 = b3) (h4 : a4 = b4) (h5 : a5 = b5) (h6 : a6 = b6) (h7 : a7 = b7) (k : Rn d j pc [b0, b1, b2, b3, b4, b5, b6, b7] st m P) : Rn d j pc [a0, a1, a2, a3, a4, a5, a6, a7] st m P := by
  subst h0 h1 h2 h3 h4 h5 h6 h7
  exact k
theorem Rn.ls9 {a0 a1 a2 a3 a4 a5 a6 a7 a8 b0 b1 b2 b3 b4 b5 b6 b7 b8 : Value} (h0 : a0 = b0) (h1 : a1 = b1) (h2 : a2 = b2) (h3 : a3 = b3) (h4 : a4 = b4) (h5 : a5 = b5) (h6 : a6 = b6) (h7 : a7 = b7) (h8 : a8 = b8) (k : Rn d j pc [b0, b1, b2, b3, b4, b5, b6, b7, b8] st m P) : Rn d j pc [a0, a1, a2, a3, a4, a5, a6, a7, a8] st m P := by
  subst h0 h1 h2 h3 h4 h5 h6 h7 h8
  exact k
theorem Rn.ls10 {a0 a1 a2 a3 a4 a5 a6 a7 a8 a9 b0 b1 b2 b3 b4 b5 b6 b7 b8 b9 : Value} (h0 : a0 = b0) (h1 : a1 = b1) (h2 : a2 = b2) (h3 : a3 = b3) (h4 : a4 = b4) (h5 : a5 = b5) (h6 : a6 = b6) (h7 : a7 = b7) (h8 : a8 = b8) (h9 : a9 = b9) (k : Rn d j pc [b0, b1, b2, b3, b4, b5, b6, b7, b8, b9] st m P) : Rn d j pc [a0, a1, a2, a3, a4, a5, a6, a7, a8, a9] st m P := by
  subst h0 h1 h2 h3 h4 h5 h6 h7 h8 h9
  exact k
theorem Rn.ls11 {a0 a1 a2 a3 a4 a5 a6 a7 a8 a9 a10 b0 b1 b2 b3 b4 b5 b6 b7 b8 b9 b10 : Value} (h0 : a0 = b0) (h1 : a1 = b1) (h2 : a2 = b2) (h3 : a3 = b3) (h4 : a4 = b4) (h5 : a5 = b5) (h6 : a6 = b6) (h7 : a7 = b7) (h8 : a8 = b8) (h9 : a9 = b9) (h10 : a10 = b10) (k : Rn d j pc [b0, b1, b2, b3, b4, b5, b6, b7, b8, b9, b10] st m P) : Rn d j pc [a0, a1, a2, a3, a4, a5, a6, a7, a8, a9, a10] st m P := by
  subst h0 h1 h2 h3 h4 h5 h6 h7 h8 h9 h10
  exact k
theorem Rn.ls12 {a0 a1 a2 a3 a4 a5 a6 a7 a8 a9 a10 a11 b0 b1 b2 b3 b4 b5 b6 b7 b8 b9 b10 b11 : Value} (h0 : a0 = b0) (h1 : a1 = b1) (h2 : a2 = b2) (h3 : a3 = b3) (h4 : a4 = b4) (h5 : a5 = b5) (h6 : a6 = b6) (h7 : a7 = b7) (h8 : a8 = b8) (h9 : a9 = b9) (h10 : a10 = b10) (h11 : a11 = b11) (k : Rn d j pc [b0, b1, b2, b3, b4, b5, b6, b7, b8, b9, b10, b11] st m P) : Rn d j pc [a0, a1, a2, a3, a4, a5, a6, a7, a8, a9, a10, a11] st m P := by
  subst h0 h1 h2 h3 h4 h5 h6 h7 h8 h9 h10 h11
  exact k
theorem Rn.mm {m2 : xM} (h : m = m2) (k : Rn d j pc ls st m2 P) : Rn d j pc ls st m P := by
  subst h
  exact k
theorem i1 : Int32.ofInt 1 = 1 := by decide
theorem nI_i1 (k : Nat) : nI k + Int32.ofInt 1 = nI (k + 1) := by rw [i1]; exact nI_1 k
theorem Rn.icmp_eq {t : Int} {x y : Int32} {pc1 pc2 : Nat} (hG : xG j pc = some (.if_icmp .eq t, len)) (h1 : t.toNat = pc1) (h2 : pc + len = pc2) (k1 : x = y → Rn d j pc1 ls st m P) (k2 : ¬ x = y → Rn d j pc2 ls st m P) : Rn d j pc ls (.int y :: .int x :: st) m P := Rn.icmp hG h1 h2 k1 k2
theorem Rn.ifc_eq {t : Int} {x : Int32} {pc1 pc2 : Nat} (hG : xG j pc = some (.ifCond .eq t, len)) (h1 : t.toNat = pc1) (h2 : pc + len = pc2) (k1 : x = 0 → Rn d j pc1 ls st m P) (k2 : ¬ x = 0 → Rn d j pc2 ls st m P) : Rn d j pc ls (.int x :: st) m P := Rn.ifc hG h1 h2 k1 k2
theorem Rn.icmp_ne {t : Int} {x y : Int32} {pc1 pc2 : Nat} (hG : xG j pc = some (.if_icmp .ne t, len)) (h1 : t.toNat = pc1) (h2 : pc + len = pc2) (k1 : ¬ x = y → Rn d j pc1 ls st m P) (k2 : x = y → Rn d j pc2 ls st m P) : Rn d j pc ls (.int y :: .int x :: st) m P := Rn.icmp hG h1 h2 k1 (fun h => k2 (Decidable.not_not.mp h))
theorem Rn.ifc_ne {t : Int} {x : Int32} {pc1 pc2 : Nat} (hG : xG j pc = some (.ifCond .ne t, len)) (h1 : t.toNat = pc1) (h2 : pc + len = pc2) (k1 : ¬ x = 0 → Rn d j pc1 ls st m P) (k2 : x = 0 → Rn d j pc2 ls st m P) : Rn d j pc ls (.int x :: st) m P := Rn.ifc hG h1 h2 k1 (fun h => k2 (Decidable.not_not.mp h))
theorem Rn.icmp_lt {t : Int} {x y : Int32} {pc1 pc2 : Nat} (hG : xG j pc = some (.if_icmp .lt t, len)) (h1 : t.toNat = pc1) (h2 : pc + len = pc2) (k1 : x < y → Rn d j pc1 ls st m P) (k2 : ¬ x < y → Rn d j pc2 ls st m P) : Rn d j pc ls (.int y :: .int x :: st) m P := Rn.icmp hG h1 h2 k1 k2
theorem Rn.ifc_lt {t : Int} {x : Int32} {pc1 pc2 : Nat} (hG : xG j pc = some (.ifCond .lt t, len)) (h1 : t.toNat = pc1) (h2 : pc + len = pc2) (k1 : x < 0 → Rn d j pc1 ls st m P) (k2 : ¬ x < 0 → Rn d j pc2 ls st m P) : Rn d j pc ls (.int x :: st) m P := Rn.ifc hG h1 h2 k1 k2
theorem Rn.icmp_ge {t : Int} {x y : Int32} {pc1 pc2 : Nat} (hG : xG j pc = some (.if_icmp .ge t, len)) (h1 : t.toNat = pc1) (h2 : pc + len = pc2) (k1 : y ≤ x → Rn d j pc1 ls st m P) (k2 : ¬ y ≤ x → Rn d j pc2 ls st m P) : Rn d j pc ls (.int y :: .int x :: st) m P := Rn.icmp hG h1 h2 k1 k2
theorem Rn.ifc_ge {t : Int} {x : Int32} {pc1 pc2 : Nat} (hG : xG j pc = some (.ifCond .ge t, len)) (h1 : t.toNat = pc1) (h2 : pc + len = pc2) (k1 : 0 ≤ x → Rn d j pc1 ls st m P) (k2 : ¬ 0 ≤ x → Rn d j pc2 ls st m P) : Rn d j pc ls (.int x :: st) m P := Rn.ifc hG h1 h2 k1 k2
theorem Rn.icmp_gt {t : Int} {x y : Int32} {pc1 pc2 : Nat} (hG : xG j pc = some (.if_icmp .gt t, len)) (h1 : t.toNat = pc1) (h2 : pc + len = pc2) (k1 : y < x → Rn d j pc1 ls st m P) (k2 : ¬ y < x → Rn d j pc2 ls st m P) : Rn d j pc ls (.int y :: .int x :: st) m P := Rn.icmp hG h1 h2 k1 k2
theorem Rn.ifc_gt {t : Int} {x : Int32} {pc1 pc2 : Nat} (hG : xG j pc = some (.ifCond .gt t, len)) (h1 : t.toNat = pc1) (h2 : pc + len = pc2) (k1 : 0 < x → Rn d j pc1 ls st m P) (k2 : ¬ 0 < x → Rn d j pc2 ls st m P) : Rn d j pc ls (.int x :: st) m P := Rn.ifc hG h1 h2 k1 k2
theorem Rn.icmp_le {t : Int} {x y : Int32} {pc1 pc2 : Nat} (hG : xG j pc = some (.if_icmp .le t, len)) (h1 : t.toNat = pc1) (h2 : pc + len = pc2) (k1 : x ≤ y → Rn d j pc1 ls st m P) (k2 : ¬ x ≤ y → Rn d j pc2 ls st m P) : Rn d j pc ls (.int y :: .int x :: st) m P := Rn.icmp hG h1 h2 k1 k2
theorem Rn.ifc_le {t : Int} {x : Int32} {pc1 pc2 : Nat} (hG : xG j pc = some (.ifCond .le t, len)) (h1 : t.toNat = pc1) (h2 : pc + len = pc2) (k1 : x ≤ 0 → Rn d j pc1 ls st m P) (k2 : ¬ x ≤ 0 → Rn d j pc2 ls st m P) : Rn d j pc ls (.int x :: st) m P := Rn.ifc hG h1 h2 k1 k2
end RN2
