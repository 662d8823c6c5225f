/-! EVERY RESOLVED INSTRUCTION AGAINST THE BYTES. -/
/-- does raw, of len bytes, at pc of method j, resolve to i? -/
def xlkB (j pc len : Nat) (raw i : Instr) : Bool := match i with
  | .iconst v => match raw with
    | .iconst n => len == 1 && decide (Int32.ofInt n = Int32.ofInt v)
    | .bipush n => len == 2 && decide ((Int8.ofInt n).toInt32 = Int32.ofInt v)
    | .sipush n => len == 3 && decide ((Int16.ofInt n).toInt32 = Int32.ofInt v)
    | .ldc q => len == 2 && xIC.any (fun e => e.1 == xoc j && e.2.1 == q && e.2.2.1 == v)
    | .ldc_w q => len == 3 && xIC.any (fun e => e.1 == xoc j && e.2.1 == q && e.2.2.1 == v)
    | _ => false
  | .ldc2_w z => match raw with
    | .lconst n => len == 1 && (n : Nat) == z
    | .ldc2_w q => len == 3 && xh3 xLC (xoc j) q z
    | _ => false
  | .ldc s => match raw with
    | .ldc q => len == 2 && xSL.any (fun e => e.1 == xoc j && e.2.1 == q && e.2.2 == s)
    | _ => false
  | .iload k => match raw with
    | .iload a => a == k && len == 2
    | .iload_n f => len == 1 && (f : Nat) == k
    | _ => false
  | .lload k => match raw with
    | .lload a => a == k && len == 2
    | .lload_n f => len == 1 && (f : Nat) == k
    | _ => false
  | .aload k => match raw with
    | .aload a => a == k && len == 2
    | .aload_n f => len == 1 && (f : Nat) == k
    | _ => false
  | .istore k => match raw with
    | .istore a => a == k && len == 2
    | .istore_n f => len == 1 && (f : Nat) == k
    | _ => false
  | .lstore k => match raw with
    | .lstore a => a == k && len == 2
    | .lstore_n f => len == 1 && (f : Nat) == k
    | _ => false
  | .astore k => match raw with
    | .astore a => a == k && len == 2
    | .astore_n f => len == 1 && (f : Nat) == k
    | _ => false
  | .iinc k n => decide (raw = .iinc k n) && len == 3
  | .goto t => match raw with
    | .goto off => len == 3 && decide ((pc : Int) + off = t ∧ 0 ≤ t)
    | _ => false
  | .ifCond c t => match raw with
    | .ifCond c' off => decide (c' = c) && len == 3 && decide ((pc : Int) + off = t ∧ 0 ≤ t)
    | _ => false
  | .if_icmp c t => match raw with
    | .if_icmp c' off => decide (c' = c) && len == 3 && decide ((pc : Int) + off = t ∧ 0 ≤ t)
    | _ => false
  | .ifnonnull t => match raw with
    | .ifnonnull off => len == 3 && decide ((pc : Int) + off = t ∧ 0 ≤ t)
    | _ => false
  | .ifnull t => match raw with
    | .ifnull off => len == 3 && decide ((pc : Int) + off = t ∧ 0 ≤ t)
    | _ => false
  | .tableswitch d lo hi offs => match raw with
    | .tableswitch d' lo' hi' offs' => lo' == lo && hi' == hi && decide ((pc : Int) + d' = d ∧ 0 ≤ d ∧ offs = offs'.map (fun o => (pc : Int) + o)) && offs.toList.all (fun t => decide (0 ≤ t))
    | _ => false
  | .lookupswitch d ps => match raw with
    | .lookupswitch d' ps' => decide ((ps'.toList.zip (ps'.toList.drop 1)).all (fun (a, next) => a.1 < next.1) = true ∧ (pc : Int) + d' = d ∧ 0 ≤ d ∧ ps = ps'.map (fun q => (q.1, (pc : Int) + q.2))) && ps.toList.all (fun q => decide (0 ≤ q.2))
    | _ => false
  | .getfield q => match raw with
    | .getfield q1 => len == 3 && xh3 xFL (xoc j) q1 q
    | _ => false
  | .putfield q => match raw with
    | .putfield q1 => len == 3 && xh3 xFL (xoc j) q1 q && match xcls[q / 64]? with
      | some (C, T, _) => (T (q % 64)).2.2.2 == false || ((xyn j).name == "<init>" && C == (xyn j).cls)
      | none => false
    | _ => false
  | .getstatic q => match raw with
    | .getstatic q1 => len == 3 && xh3 xGS (xoc j) q1 q
    | _ => false
  | .new ci => match raw with
    | .new q1 => len == 3 && xh3 xCL (xoc j) q1 ci
    | _ => false
  | .newarray a => decide (raw = .newarray a) && len == 2
  | .anewarray t => match raw with
    | .anewarray q1 => len == 3 && xh3 xAL (xoc j) q1 t
    | _ => false
  | .checkcast _ => match raw with
    | .checkcast q1 => len == 3 && q1 == 317 && xoc j == xoc j_Arrays_copyOf
    | _ => false
  | .invokevirtual k => match raw with
    | .invokevirtual q1 => len == 3 && ((k == 9997 && xh3 xOL (xoc j) q1 9997) || (xkd k == 1 && xh3 xML (xoc j) q1 k))
    | _ => false
  | .invokespecial k => match raw with
    | .invokespecial q1 => len == 3 && ((k == 9999 && xh3 xOL (xoc j) q1 9999) || (xkd k == 2 && (xh3 xML (xoc j) q1 k || xNL.any (fun e => e.1 == xoc j && e.2.1 == q1 && e.2.2 == k))))
    | _ => false
  | .invokestatic k => match raw with
    | .invokestatic q1 => len == 3 && ((k == 9998 && xh3 xOL (xoc j) q1 9998) || (xkd k == 0 && xh3 xML (xoc j) q1 k))
    | _ => false
  | .ireturn => decide (raw = .ireturn) && len == 1 && decide (xrt j = some (xrk j))
  | .lreturn => decide (raw = .lreturn) && len == 1 && decide (xrt j = some .long)
  | .areturn => decide (raw = .areturn) && len == 1 && match xrt j with
    | some (.object _) => true
    | some (.array _) => true
    | _ => false
  | .return_ => decide (raw = .return_) && len == 1 && decide (xrt j = none)
  | i => decide (raw = i) && len == 1
def xcb (j : Nat) : Nat → List (Option (Instr × Nat)) → Bool
  | _, [] => true
  | pc, none :: r => xcb j (pc + 1) r
  | pc, some (i, len) :: r => (match decode (xbt j) pc with
    | .ok (raw, len') => len' == len && xlkB j pc len raw i
    | _ => false) && xcb j (pc + 1) r
theorem xcb_at {j : Nat} : ∀ (cd : List (Option (Instr × Nat))) (p0 pc : Nat) (i : Instr) (len : Nat), xcb j p0 cd = true → cd[pc]? = some (some (i, len)) → ∃ raw, decode (xbt j) (p0 + pc) = .ok (raw, len) ∧ xlkB j (p0 + pc) len raw i = true
  | [], _, _, _, _, _, h => by simp at h
  | none :: r, p0, pc, i, len, hc, h => by
    match pc, h with
    | 0, h => simp at h
    | pc + 1, h =>
      have := xcb_at r (p0 + 1) pc i len hc (by simpa using h)
      rw [show p0 + (pc + 1) = p0 + 1 + pc by omega]
      exact this
  | some (i', len') :: r, p0, pc, i, len, hc, h => by
    simp only [xcb, Bool.and_eq_true] at hc
    match pc, h with
    | 0, h =>
      simp at h
      obtain ⟨rfl, rfl⟩ := h
      have h1 := hc.1
      split at h1
      · rename_i raw len2 hd
        simp only [Bool.and_eq_true, beq_iff_eq] at h1
        obtain ⟨rfl, h2⟩ := h1
        exact ⟨raw, hd, h2⟩
      · cases h1
    | pc + 1, h =>
      have := xcb_at r (p0 + 1) pc i len hc.2 (by simpa using h)
      rw [show p0 + (pc + 1) = p0 + 1 + pc by omega]
      exact this
theorem xk_at {k : Nat} (h : k < xnM) : xkb k = true := List.all_eq_true.mp xk_ok k (List.mem_range.mpr h)
theorem xkd_lt {k q : Nat} (h : xkd k = q) (hq : q < 3) : k < xnC := by
  have hne : k ≠ xnC := fun e => by
    rw [e, show xkd xnC = 3 from by decide +kernel] at h
    omega
  suffices hs : k < xnM by simp only [xnM, xnC] at hs hne ⊢; omega
  unfold xkd at h
  rcases Nat.lt_or_ge k xkdL.length with h1 | h1
  · exact Nat.lt_of_lt_of_le h1 (by decide +kernel)
  · simp only [List.getD, List.getElem?_eq_none h1, Option.getD_none] at h
    omega
theorem xkd_own {k : Nat} (h : k < xnM) : (xyn k).cls = xcn (xoc k) := by
  have := xk_at h
  simp only [xkb, Bool.and_eq_true, beq_iff_eq] at this
  exact this.1
theorem xkd0 {k : Nat} (h : xkd k = 0) : k < xnC ∧ Cond.static (xyn k) ∈ xgt ∧ xna k = xnp k := by
  have hl := xkd_lt h (by decide)
  have := xk_at (Nat.lt_succ_of_lt hl)
  simp only [xkb, Bool.and_eq_true, beq_iff_eq, h] at this
  exact ⟨hl, xin_mem this.2.1, this.2.2⟩
theorem xkd1 {k : Nat} (h : xkd k = 1) : k < xnC ∧ Cond.instanceMethod (xyn k) ∈ xgt ∧ Cond.selects (xyn k).cls (xyn k) (xyn k) ∈ xgt ∧ xna k = xnp k + 1 ∧ ((∃ r, xcls[xrc k]? = some r ∧ r.1 = (xyn k).cls) ∨ (xrc k = 90 ∧ (xyn k).cls = "java/lang/String")) := by
  have hl := xkd_lt h (by decide)
  have := xk_at (Nat.lt_succ_of_lt hl)
  simp only [xkb, Bool.and_eq_true, beq_iff_eq, h] at this
  obtain ⟨-, ⟨⟨h1, h2⟩, h3⟩, h4⟩ := this
  refine ⟨hl, xin_mem h1, xin_mem h2, h3, ?_⟩
  split at h4
  · rename_i r hr
    exact Or.inl ⟨r, hr, by simpa using h4⟩
  · simp only [Bool.and_eq_true, beq_iff_eq] at h4
    exact Or.inr h4
theorem xkd2 {k : Nat} (h : xkd k = 2) : k < xnC ∧ Cond.instanceMethod (xyn k) ∈ xgt ∧ (xyn k).name = "<init>" ∧ xna k = xnp k + 1 ∧ xrt k = none := by
  have hl := xkd_lt h (by decide)
  have := xk_at (Nat.lt_succ_of_lt hl)
  simp only [xkb, Bool.and_eq_true, beq_iff_eq, decide_eq_true_eq, h] at this
  obtain ⟨-, ⟨⟨h1, h2⟩, h3⟩, h4⟩ := this
  exact ⟨hl, xin_mem h1, h2, h3, h4⟩
theorem xFL_at {j q1 q : Nat} (hj : j < xnM) (h : xh3 xFL (xoc j) q1 q = true) : (∃ C T N, xcls[q / 64]? = some (C, T, N) ∧ q % 64 < N ∧ (T (q % 64)).1 = C ∧ Cond.fieldLink (xyn j).cls q1 C (T (q % 64)).2.1 (T (q % 64)).2.2.1 ∈ xgt) ∨ (q = 90 * 64 ∧ Cond.fieldLink (xyn j).cls q1 "java/lang/String" "value" "[B" ∈ xgt) ∨ (q = 90 * 64 + 1 ∧ Cond.fieldLink (xyn j).cls q1 "java/lang/String" "coder" "B" ∈ xgt) := by
  obtain ⟨k, hk⟩ := xh3_mem h
  have := List.all_eq_true.mp xFL_ok _ hk
  rw [xkd_own hj]
  simp only [xFLb] at this
  split at this
  · rename_i C T N hc
    simp only [Bool.and_eq_true, decide_eq_true_eq] at this
    exact Or.inl ⟨C, T, N, hc, this.1.1, this.1.2, xin_mem this.2⟩
  · simp only [Bool.or_eq_true, Bool.and_eq_true, beq_iff_eq] at this
    rcases this with ⟨h1, h2⟩ | ⟨h1, h2⟩
    · exact Or.inr (Or.inl ⟨h1, xin_mem h2⟩)
    · exact Or.inr (Or.inr ⟨h1, xin_mem h2⟩)
theorem xML_at {j q1 k : Nat} (hj : j < xnM) (h : xh3 xML (xoc j) q1 k = true) : k < xnM ∧ Cond.methodLink (xyn j).cls q1 (xyn k) ∈ xgt := by
  obtain ⟨t, hk⟩ := xh3_mem h
  have := List.all_eq_true.mp xML_ok _ hk
  rw [xkd_own hj]
  simp only [xMLb, Bool.and_eq_true, decide_eq_true_eq] at this
  exact ⟨this.1, xin_mem this.2⟩
theorem xOL_at {j q1 k : Nat} (hj : j < xnM) (h : xh3 xOL (xoc j) q1 k = true) : (k = 9999 → Cond.methodLink (xyn j).cls q1 objectInit ∈ xgt) ∧ (k = 9998 → Cond.methodLink (xyn j).cls q1 arraycopyName ∈ xgt) ∧ (k = 9997 → Cond.methodLink (xyn j).cls q1 ⟨"[I", "clone", "()Ljava/lang/Object;"⟩ ∈ xgt) := by
  obtain ⟨t, hk⟩ := xh3_mem h
  have := List.all_eq_true.mp xOL_ok _ hk
  rw [xkd_own hj]
  simp only [xOLb, Bool.or_eq_true, Bool.and_eq_true, beq_iff_eq] at this
  rcases this with (⟨h1, h2⟩ | ⟨h1, h2⟩) | ⟨h1, h2⟩
  · exact ⟨fun _ => xin_mem h2, fun e => by omega, fun e => by omega⟩
  · exact ⟨fun e => by omega, fun _ => xin_mem h2, fun e => by omega⟩
  · exact ⟨fun e => by omega, fun e => by omega, fun _ => xin_mem h2⟩
theorem xcast_w : Cond.classLink (xcn (xoc j_Arrays_copyOf)) 317 "[I" ∈ xgt := xin_mem (k := 697) (by decide +kernel)
set_option maxHeartbeats 2000000 in
theorem xlkB_ok {j pc len : Nat} {raw i : Instr} (hj : j < xnM) (h : xlkB j pc len raw i = true) : xlk xgt xnst xcls xacl xnC xyn xstr j pc len raw i ∧ xlk2 xcls xyn xna xnp xrc xrk xrt j i := by
  cases i
  case iconst v =>
    simp only [xlkB] at h
    split at h <;> simp only [Bool.and_eq_true, beq_iff_eq, decide_eq_true_eq, reduceCtorEq] at h
    · exact ⟨Or.inl ⟨_, rfl, h.1, h.2⟩, trivial⟩
    · exact ⟨Or.inr (Or.inl ⟨_, rfl, h.1, h.2⟩), trivial⟩
    · exact ⟨Or.inr (Or.inr (Or.inl ⟨_, rfl, h.1, h.2⟩)), trivial⟩
    · obtain ⟨h1, h2⟩ := h
      obtain ⟨⟨e1, e2, e3, e4⟩, he, h3⟩ := List.any_eq_true.mp h2
      simp only [Bool.and_eq_true, beq_iff_eq] at h3
      obtain ⟨⟨rfl, rfl⟩, rfl⟩ := h3
      have := List.all_eq_true.mp xIC_ok _ he
      refine ⟨Or.inr (Or.inr (Or.inr (Or.inl ⟨_, rfl, h1, ?_⟩))), trivial⟩
      rw [xkd_own hj]
      exact xin_mem this
    · obtain ⟨h1, h2⟩ := h
      obtain ⟨⟨e1, e2, e3, e4⟩, he, h3⟩ := List.any_eq_true.mp h2
      simp only [Bool.and_eq_true, beq_iff_eq] at h3
      obtain ⟨⟨rfl, rfl⟩, rfl⟩ := h3
      have := List.all_eq_true.mp xIC_ok _ he
      refine ⟨Or.inr (Or.inr (Or.inr (Or.inr ⟨_, rfl, h1, ?_⟩))), trivial⟩
      rw [xkd_own hj]
      exact xin_mem this
  case ldc2_w z =>
    simp only [xlkB] at h
    split at h <;> simp only [Bool.and_eq_true, beq_iff_eq, reduceCtorEq] at h
    · exact ⟨Or.inl ⟨_, rfl, h.1, h.2⟩, trivial⟩
    · obtain ⟨k, hk⟩ := xh3_mem h.2
      have := List.all_eq_true.mp xLC_ok _ hk
      refine ⟨Or.inr ⟨_, rfl, h.1, ?_⟩, trivial⟩
      rw [xkd_own hj]
      exact xin_mem this
  case ldc s =>
    simp only [xlkB] at h
    split at h <;> simp only [Bool.and_eq_true, beq_iff_eq, reduceCtorEq] at h
    obtain ⟨h1, h2⟩ := h
    obtain ⟨⟨e1, e2, e3⟩, he, h3⟩ := List.any_eq_true.mp h2
    simp only [Bool.and_eq_true, beq_iff_eq] at h3
    obtain ⟨⟨rfl, rfl⟩, rfl⟩ := h3
    have := List.all_eq_true.mp xSL_ok _ he
    simp only [xSLb] at this
    obtain ⟨⟨f1, f2, f3, f4⟩, hf, h4⟩ := List.any_eq_true.mp this
    simp only [Bool.and_eq_true, beq_iff_eq] at h4
    obtain ⟨⟨rfl, h5⟩, rfl⟩ := h4
    refine ⟨⟨_, f4, rfl, h1, ?_⟩, trivial⟩
    rw [xkd_own hj, ← h5]
    exact hf
  case iload k =>
    simp only [xlkB] at h
    split at h <;> simp only [Bool.and_eq_true, beq_iff_eq, reduceCtorEq] at h
    · obtain ⟨rfl, h2⟩ := h
      exact ⟨Or.inl ⟨rfl, h2⟩, trivial⟩
    · exact ⟨Or.inr ⟨_, rfl, h.1, h.2⟩, trivial⟩
  case lload k =>
    simp only [xlkB] at h
    split at h <;> simp only [Bool.and_eq_true, beq_iff_eq, reduceCtorEq] at h
    · obtain ⟨rfl, h2⟩ := h
      exact ⟨Or.inl ⟨rfl, h2⟩, trivial⟩
    · exact ⟨Or.inr ⟨_, rfl, h.1, h.2⟩, trivial⟩
  case aload k =>
    simp only [xlkB] at h
    split at h <;> simp only [Bool.and_eq_true, beq_iff_eq, reduceCtorEq] at h
    · obtain ⟨rfl, h2⟩ := h
      exact ⟨Or.inl ⟨rfl, h2⟩, trivial⟩
    · exact ⟨Or.inr ⟨_, rfl, h.1, h.2⟩, trivial⟩
  case istore k =>
    simp only [xlkB] at h
    split at h <;> simp only [Bool.and_eq_true, beq_iff_eq, reduceCtorEq] at h
    · obtain ⟨rfl, h2⟩ := h
      exact ⟨Or.inl ⟨rfl, h2⟩, trivial⟩
    · exact ⟨Or.inr ⟨_, rfl, h.1, h.2⟩, trivial⟩
  case lstore k =>
    simp only [xlkB] at h
    split at h <;> simp only [Bool.and_eq_true, beq_iff_eq, reduceCtorEq] at h
    · obtain ⟨rfl, h2⟩ := h
      exact ⟨Or.inl ⟨rfl, h2⟩, trivial⟩
    · exact ⟨Or.inr ⟨_, rfl, h.1, h.2⟩, trivial⟩
  case astore k =>
    simp only [xlkB] at h
    split at h <;> simp only [Bool.and_eq_true, beq_iff_eq, reduceCtorEq] at h
    · obtain ⟨rfl, h2⟩ := h
      exact ⟨Or.inl ⟨rfl, h2⟩, trivial⟩
    · exact ⟨Or.inr ⟨_, rfl, h.1, h.2⟩, trivial⟩
  case iinc k n =>
    simp only [xlkB, Bool.and_eq_true, beq_iff_eq, decide_eq_true_eq] at h
    exact ⟨h, trivial⟩
  case goto t =>
    simp only [xlkB] at h
    split at h <;> simp only [Bool.and_eq_true, beq_iff_eq, decide_eq_true_eq, reduceCtorEq] at h
    exact ⟨⟨_, rfl, h.1, h.2.1, h.2.2⟩, trivial⟩
  case ifnonnull t =>
    simp only [xlkB] at h
    split at h <;> simp only [Bool.and_eq_true, beq_iff_eq, decide_eq_true_eq, reduceCtorEq] at h
    exact ⟨⟨_, rfl, h.1, h.2.1, h.2.2⟩, trivial⟩
  case ifnull t =>
    simp only [xlkB] at h
    split at h <;> simp only [Bool.and_eq_true, beq_iff_eq, decide_eq_true_eq, reduceCtorEq] at h
    exact ⟨⟨_, rfl, h.1, h.2.1, h.2.2⟩, trivial⟩
  case ifCond c t =>
    simp only [xlkB] at h
    split at h <;> simp only [Bool.and_eq_true, beq_iff_eq, decide_eq_true_eq, reduceCtorEq] at h
    obtain ⟨⟨rfl, h1⟩, h2, h3⟩ := h
    exact ⟨⟨_, rfl, h1, h2, h3⟩, trivial⟩
  case if_icmp c t =>
    simp only [xlkB] at h
    split at h <;> simp only [Bool.and_eq_true, beq_iff_eq, decide_eq_true_eq, reduceCtorEq] at h
    obtain ⟨⟨rfl, h1⟩, h2, h3⟩ := h
    exact ⟨⟨_, rfl, h1, h2, h3⟩, trivial⟩
  case tableswitch d lo hi offs =>
    simp only [xlkB] at h
    split at h <;> simp only [Bool.and_eq_true, beq_iff_eq, decide_eq_true_eq, List.all_eq_true, reduceCtorEq] at h
    obtain ⟨⟨⟨rfl, rfl⟩, h1, h2, h3⟩, h4⟩ := h
    exact ⟨⟨_, _, rfl, h1, h2, h3, h4⟩, trivial⟩
  case lookupswitch d ps =>
    simp only [xlkB] at h
    split at h <;> simp only [Bool.and_eq_true, decide_eq_true_eq, List.all_eq_true (l := ps.toList), reduceCtorEq] at h
    obtain ⟨⟨h0, h1, h2, h3⟩, h4⟩ := h
    exact ⟨⟨_, _, rfl, h0, h1, h2, h3, h4⟩, trivial⟩
  case getfield q =>
    simp only [xlkB] at h
    split at h <;> simp only [Bool.and_eq_true, beq_iff_eq, reduceCtorEq] at h
    exact ⟨⟨_, rfl, h.1, xFL_at hj h.2⟩, trivial⟩
  case putfield q =>
    simp only [xlkB] at h
    split at h <;> simp only [Bool.and_eq_true, beq_iff_eq, reduceCtorEq] at h
    obtain ⟨⟨h1, h2⟩, h3⟩ := h
    refine ⟨⟨_, rfl, h1, ?_⟩, trivial⟩
    split at h3
    · rename_i C T N hc
      rcases xFL_at hj h2 with ⟨C', T', N', g1, g2, g3, g4⟩ | ⟨rfl, -⟩ | ⟨rfl, -⟩
      · cases hc.symm.trans g1
        refine ⟨C, T, N, g1, g2, g3, g4, ?_⟩
        cases hf : (T (q % 64)).2.2.2
        · exact Or.inl rfl
        · simp only [hf, Bool.or_eq_true, Bool.and_eq_true, beq_iff_eq, reduceCtorEq, false_or] at h3
          exact Or.inr ⟨rfl, h3⟩
      · exact absurd hc (by rw [show xcls[90 * 64 / 64]? = none from by decide +kernel]; simp)
      · exact absurd hc (by rw [show xcls[(90 * 64 + 1) / 64]? = none from by decide +kernel]; simp)
    · cases h3
  case getstatic q =>
    simp only [xlkB] at h
    split at h <;> simp only [Bool.and_eq_true, beq_iff_eq, reduceCtorEq] at h
    obtain ⟨k, hk⟩ := xh3_mem h.2
    have := List.all_eq_true.mp xGS_ok _ hk
    simp only [xGSb, Bool.or_eq_true, Bool.and_eq_true, beq_iff_eq] at this
    refine ⟨⟨_, rfl, h.1, ?_⟩, trivial⟩
    rw [xkd_own hj]
    rcases this with ⟨h1, h2⟩ | ⟨h1, h2⟩
    · exact Or.inl ⟨h1, xin_mem h2⟩
    · exact Or.inr ⟨h1, xin_mem h2⟩
  case new ci =>
    simp only [xlkB] at h
    split at h <;> simp only [Bool.and_eq_true, beq_iff_eq, reduceCtorEq] at h
    obtain ⟨k, hk⟩ := xh3_mem h.2
    have := List.all_eq_true.mp xCL_ok _ hk
    simp only [xCLb] at this
    split at this
    · rename_i C T N hc
      refine ⟨⟨_, rfl, h.1, C, T, N, hc, ?_⟩, trivial⟩
      rw [xkd_own hj]
      exact xin_mem this
    · cases this
  case newarray a =>
    simp only [xlkB, Bool.and_eq_true, beq_iff_eq, decide_eq_true_eq] at h
    exact ⟨h, trivial⟩
  case anewarray t =>
    simp only [xlkB] at h
    split at h <;> simp only [Bool.and_eq_true, beq_iff_eq, reduceCtorEq] at h
    obtain ⟨k, hk⟩ := xh3_mem h.2
    have := List.all_eq_true.mp xAL_ok _ hk
    simp only [xALb] at this
    split at this
    · rename_i C T N hc
      refine ⟨⟨_, rfl, h.1, _, hc, ?_⟩, trivial⟩
      rw [xkd_own hj]
      exact xin_mem this
    · cases this
  case checkcast q =>
    simp only [xlkB] at h
    split at h <;> simp only [Bool.and_eq_true, beq_iff_eq, reduceCtorEq] at h
    obtain ⟨⟨h1, rfl⟩, h3⟩ := h
    refine ⟨⟨_, rfl, h1, ?_⟩, trivial⟩
    rw [xkd_own hj, h3]
    exact xcast_w
  case invokevirtual k =>
    simp only [xlkB] at h
    split at h <;> simp only [Bool.and_eq_true, Bool.or_eq_true, beq_iff_eq, reduceCtorEq] at h
    obtain ⟨h1, h2⟩ := h
    rcases h2 with ⟨rfl, h2⟩ | ⟨h2, h3⟩
    · exact ⟨⟨_, rfl, h1, Or.inl ⟨rfl, (xOL_at hj h2).2.2 rfl⟩⟩, Or.inl rfl⟩
    · obtain ⟨g1, g2, g3, g4, g5⟩ := xkd1 h2
      exact ⟨⟨_, rfl, h1, Or.inr ⟨g1, (xML_at hj h3).2, g2, g3⟩⟩, Or.inr ⟨g4, g5⟩⟩
  case invokespecial k =>
    simp only [xlkB] at h
    split at h <;> simp only [Bool.and_eq_true, Bool.or_eq_true, beq_iff_eq, reduceCtorEq] at h
    obtain ⟨h1, h2⟩ := h
    rcases h2 with ⟨rfl, h2⟩ | ⟨h2, h3⟩
    · exact ⟨⟨_, rfl, h1, Or.inl ⟨rfl, (xOL_at hj h2).1 rfl⟩⟩, Or.inl rfl⟩
    · obtain ⟨g1, g2, g3, g4, g5⟩ := xkd2 h2
      refine ⟨⟨_, rfl, h1, Or.inr ⟨g1, g3, g2, ?_⟩⟩, Or.inr ⟨g4, g5⟩⟩
      rcases h3 with h3 | h3
      · exact Or.inl (xML_at hj h3).2
      · obtain ⟨⟨e1, e2, e3⟩, he, h4⟩ := List.any_eq_true.mp h3
        simp only [Bool.and_eq_true, beq_iff_eq] at h4
        obtain ⟨⟨rfl, rfl⟩, rfl⟩ := h4
        have := List.all_eq_true.mp xNL_ok _ he
        simp only [xNLb, Bool.and_eq_true, decide_eq_true_eq] at this
        rw [xkd_own hj]
        exact Or.inr this.2
  case invokestatic k =>
    simp only [xlkB] at h
    split at h <;> simp only [Bool.and_eq_true, Bool.or_eq_true, beq_iff_eq, reduceCtorEq] at h
    obtain ⟨h1, h2⟩ := h
    rcases h2 with ⟨rfl, h2⟩ | ⟨h2, h3⟩
    · exact ⟨⟨_, rfl, h1, Or.inl ⟨rfl, (xOL_at hj h2).2.1 rfl⟩⟩, Or.inl rfl⟩
    · obtain ⟨g1, g2, g3⟩ := xkd0 h2
      exact ⟨⟨_, rfl, h1, Or.inr ⟨g1, (xML_at hj h3).2, g2⟩⟩, Or.inr g3⟩
  case ireturn =>
    simp only [xlkB, Bool.and_eq_true, beq_iff_eq, decide_eq_true_eq] at h
    exact ⟨h.1, h.2⟩
  case lreturn =>
    simp only [xlkB, Bool.and_eq_true, beq_iff_eq, decide_eq_true_eq] at h
    exact ⟨h.1, h.2⟩
  case areturn =>
    simp only [xlkB, Bool.and_eq_true, beq_iff_eq, decide_eq_true_eq] at h
    refine ⟨h.1, ?_⟩
    have h2 := h.2
    split at h2
    · rename_i n hn
      exact ⟨_, hn, Or.inl ⟨_, rfl⟩⟩
    · rename_i n hn
      exact ⟨_, hn, Or.inr ⟨_, rfl⟩⟩
    · cases h2
  case return_ =>
    simp only [xlkB, Bool.and_eq_true, beq_iff_eq, decide_eq_true_eq] at h
    exact ⟨h.1, h.2⟩
  all_goals
    simp only [xlkB, Bool.and_eq_true, beq_iff_eq, decide_eq_true_eq] at h
    exact ⟨h, trivial⟩
