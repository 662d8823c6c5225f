/-! RUNS OF THE PROGRAM, AS A CALCULUS: Rn, and a rule an instruction. -/
abbrev Ix : Nat → Nat → Nat → Nat → List Value → List Value → xM → Option (Option Value × xM) := ix xG xfty xacl xna xmx xrc xrk
abbrev IxB (rec : Nat → Nat → Nat → List Value → List Value → xM → Option (Option Value × xM)) (d j pc : Nat) (ls st : List Value) (m : xM) : Option (Option Value × xM) := ixB xG xfty xacl xna xmx xrc xrk rec d j pc ls st m
def Rn (d j pc : Nat) (ls st : List Value) (m : xM) (P : Option Value → xM → Prop) : Prop := ∃ n r m', Ix n d j pc ls st m = some (r, m') ∧ P r m'
/-- a call: method j, with these arguments -/
def Cl (d j : Nat) (as : List Value) (m : xM) (P : Option Value → xM → Prop) : Prop := Rn d j 0 (xent (xmx j) as) [] m P
theorem ixB_le {f g : Nat → Nat → Nat → List Value → List Value → xM → Option (Option Value × xM)} (hle : ∀ d j pc ls st m x, f d j pc ls st m = some x → g d j pc ls st m = some x) {d j pc : Nat} {ls st : List Value} {m : xM} {x : Option Value × xM} (h : IxB f d j pc ls st m = some x) : IxB g d j pc ls st m = some x := by
  unfold IxB ixB at h ⊢
  cases hG : xG j pc with
  | none => simp [hG] at h
  | some q =>
    obtain ⟨i, len⟩ := q
    simp only [hG] at h ⊢
    cases i
    case invokevirtual k =>
      dsimp only at h ⊢
      cases d with
      | zero => cases h
      | succ d =>
        dsimp only at h ⊢
        split at h
        · rename_i hk
          rw [if_pos hk]
          split at h
          · cases h
          · rename_i h1
            try simp only [h1]
            exact hle _ _ _ _ _ _ _ h
        · rename_i hk
          rw [if_neg hk]
          split at h
          · cases h
          · rename_i h1
            try simp only [h1]
            split at h
            · rename_i h2
              rw [if_pos h2]
              split at h
              · cases h
              · rename_i h3
                simp only [hle _ _ _ _ _ _ _ h3]
                exact hle _ _ _ _ _ _ _ h
            · cases h
    case invokestatic k =>
      dsimp only at h ⊢
      cases d with
      | zero => cases h
      | succ d =>
        dsimp only at h ⊢
        split at h
        · rename_i hk
          rw [if_pos hk]
          split at h
          · cases h
          · rename_i h1
            try simp only [h1]
            exact hle _ _ _ _ _ _ _ h
        · rename_i hk
          rw [if_neg hk]
          split at h
          · cases h
          · rename_i h1
            try simp only [h1]
            split at h
            · cases h
            · rename_i h3
              simp only [hle _ _ _ _ _ _ _ h3]
              exact hle _ _ _ _ _ _ _ h
    case invokespecial k =>
      dsimp only at h ⊢
      cases d with
      | zero => cases h
      | succ d =>
        dsimp only at h ⊢
        split at h
        · rename_i hk
          rw [if_pos hk]
          split at h
          · split at h
            · rename_i h2
              simp only [if_pos h2]
              exact hle _ _ _ _ _ _ _ h
            · cases h
          · cases h
        · rename_i hk
          rw [if_neg hk]
          split at h
          · cases h
          · rename_i h1
            try simp only [h1]
            split at h
            · rename_i h2
              rw [if_pos h2]
              split at h
              · cases h
              · rename_i h3
                simp only [hle _ _ _ _ _ _ _ h3]
                exact hle _ _ _ _ _ _ _ h
            · cases h
    case ireturn => exact h
    case lreturn => exact h
    case areturn => exact h
    case return_ => exact h
    all_goals
      dsimp only at h ⊢
      split at h
      · cases h
      · rename_i h1
        try simp only [h1]
        exact hle _ _ _ _ _ _ _ h
theorem Ix_le : ∀ (n : Nat) {d j pc : Nat} {ls st : List Value} {m : xM} {x : Option Value × xM}, Ix n d j pc ls st m = some x → Ix (n + 1) d j pc ls st m = some x
  | 0, _, _, _, _, _, _, _, h => by cases h
  | n + 1, d, j, pc, ls, st, m, x, h => ixB_le (f := Ix n) (g := Ix (n + 1)) (fun d j pc ls st m x h => Ix_le n h) h
theorem Ix_mono {n n' : Nat} (h : n ≤ n') {d j pc : Nat} {ls st : List Value} {m : xM} {x : Option Value × xM} (hx : Ix n d j pc ls st m = some x) : Ix n' d j pc ls st m = some x := by
  induction h with
  | refl => exact hx
  | step _ ih => exact Ix_le _ ih
section RN
variable {d j pc len : Nat} {ls st : List Value} {m : xM} {P P1 : Option Value → xM → Prop}
theorem Rn.step {i : Instr} {pc' : Nat} {ls' st' : List Value} {m' : xM} (hG : xG j pc = some (i, len)) (hx : xs xfty xacl i (pc + len) ls st m = some (pc', ls', st', m')) (k : Rn d j pc' ls' st' m' P) : Rn d j pc ls st m P := by
  obtain ⟨n, r, m2, h, hp⟩ := k
  refine ⟨n + 1, r, m2, ?_, hp⟩
  show ixB xG xfty xacl xna xmx xrc xrk (Ix n) d j pc ls st m = _
  unfold ixB
  rw [hG]
  cases i <;> first | (simp [xs] at hx; done) | (simp only [hx]; exact h)
theorem Rn.iret {v : Int32} (hG : xG j pc = some (.ireturn, len)) (hn : narrow (xrk j) (.int v) = .int v) (hp : P (some (.int v)) m) : Rn d j pc ls [.int v] m P := by
  refine ⟨1, some (.int v), m, ?_, hp⟩
  show ixB xG xfty xacl xna xmx xrc xrk (Ix 0) d j pc ls [.int v] m = _
  unfold ixB
  rw [hG]
  simp only [if_pos hn]
theorem Rn.lret {v : Int64} (hG : xG j pc = some (.lreturn, len)) (hp : P (some (.long v)) m) : Rn d j pc ls [.long v] m P := by
  refine ⟨1, some (.long v), m, ?_, hp⟩
  show ixB xG xfty xacl xna xmx xrc xrk (Ix 0) d j pc ls [.long v] m = _
  unfold ixB
  rw [hG]
theorem Rn.aret {v : Nat} (hG : xG j pc = some (.areturn, len)) (hv : v < xS) (hp : P (some (.ref v)) m) : Rn d j pc ls [.ref v] m P := by
  refine ⟨1, some (.ref v), m, ?_, hp⟩
  show ixB xG xfty xacl xna xmx xrc xrk (Ix 0) d j pc ls [.ref v] m = _
  unfold ixB
  rw [hG]
  simp only [if_pos hv]
theorem Rn.vret (hG : xG j pc = some (.return_, len)) (hp : P none m) : Rn d j pc ls [] m P := by
  refine ⟨1, none, m, ?_, hp⟩
  show ixB xG xfty xacl xna xmx xrc xrk (Ix 0) d j pc ls [] m = _
  unfold ixB
  rw [hG]
theorem Rn.callS {k : Nat} {as rest : List Value} {pc' : Nat} (hG : xG j pc = some (.invokestatic k, len)) (hk : k ≠ 9998) (hd : 0 < d) (ha : x_arg xna xmx k st = some (as, rest)) (hp : pc + len = pc') (hc : Cl (d - 1) k as m P1) (kk : ∀ r m', P1 r m' → Rn d j pc' ls (r.toList ++ rest) m' P) : Rn d j pc ls st m P := by
  obtain ⟨n1, r1, m1, h1, hp1⟩ := hc
  obtain ⟨n2, r2, m2, h2, hp2⟩ := kk r1 m1 hp1
  subst hp
  refine ⟨max n1 n2 + 1, r2, m2, ?_, hp2⟩
  show ixB xG xfty xacl xna xmx xrc xrk (Ix (max n1 n2)) d j pc ls st m = _
  obtain ⟨d', rfl⟩ : ∃ d', d = d' + 1 := ⟨d - 1, by omega⟩
  unfold ixB
  rw [hG]
  simp only [if_neg hk, ha, show Ix (max n1 n2) d' k 0 (xent (xmx k) as) [] m = some (r1, m1) from Ix_mono (Nat.le_max_left n1 n2) h1]
  exact Ix_mono (Nat.le_max_right n1 n2) h2
theorem Rn.callV {k : Nat} {as rest : List Value} {pc' : Nat} (hG : xG j pc = some (.invokevirtual k, len)) (hk : k ≠ 9997) (hd : 0 < d) (ha : x_arg xna xmx k st = some (as, rest)) (hr : x_rcv xrc k m as = true) (hp : pc + len = pc') (hc : Cl (d - 1) k as m P1) (kk : ∀ r m', P1 r m' → Rn d j pc' ls (r.toList ++ rest) m' P) : Rn d j pc ls st m P := by
  obtain ⟨n1, r1, m1, h1, hp1⟩ := hc
  obtain ⟨n2, r2, m2, h2, hp2⟩ := kk r1 m1 hp1
  subst hp
  refine ⟨max n1 n2 + 1, r2, m2, ?_, hp2⟩
  show ixB xG xfty xacl xna xmx xrc xrk (Ix (max n1 n2)) d j pc ls st m = _
  obtain ⟨d', rfl⟩ : ∃ d', d = d' + 1 := ⟨d - 1, by omega⟩
  unfold ixB
  rw [hG]
  simp only [if_neg hk, ha, if_pos hr, show Ix (max n1 n2) d' k 0 (xent (xmx k) as) [] m = some (r1, m1) from Ix_mono (Nat.le_max_left n1 n2) h1]
  exact Ix_mono (Nat.le_max_right n1 n2) h2
theorem Rn.callI {k : Nat} {as rest : List Value} {pc' : Nat} (hG : xG j pc = some (.invokespecial k, len)) (hk : k ≠ 9999) (hd : 0 < d) (ha : x_arg xna xmx k st = some (as, rest)) (hr : x_rcs as = true) (hp : pc + len = pc') (hc : Cl (d - 1) k as m P1) (kk : ∀ r m', P1 r m' → Rn d j pc' ls (r.toList ++ rest) m' P) : Rn d j pc ls st m P := by
  obtain ⟨n1, r1, m1, h1, hp1⟩ := hc
  obtain ⟨n2, r2, m2, h2, hp2⟩ := kk r1 m1 hp1
  subst hp
  refine ⟨max n1 n2 + 1, r2, m2, ?_, hp2⟩
  show ixB xG xfty xacl xna xmx xrc xrk (Ix (max n1 n2)) d j pc ls st m = _
  obtain ⟨d', rfl⟩ : ∃ d', d = d' + 1 := ⟨d - 1, by omega⟩
  unfold ixB
  rw [hG]
  simp only [if_neg hk, ha, if_pos hr, show Ix (max n1 n2) d' k 0 (xent (xmx k) as) [] m = some (r1, m1) from Ix_mono (Nat.le_max_left n1 n2) h1]
  exact Ix_mono (Nat.le_max_right n1 n2) h2
theorem Rn.objInit {a : Nat} {rest : List Value} {pc' : Nat} (hG : xG j pc = some (.invokespecial 9999, len)) (hd : 0 < d) (hc : xcat rest ≤ 8 ∧ a < xS) (hp : pc + len = pc') (k : Rn d j pc' ls rest m P) : Rn d j pc ls (.ref a :: rest) m P := by
  obtain ⟨n, r, m2, h, hp2⟩ := k
  subst hp
  refine ⟨n + 1, r, m2, ?_, hp2⟩
  show ixB xG xfty xacl xna xmx xrc xrk (Ix n) d j pc ls (.ref a :: rest) m = _
  obtain ⟨d', rfl⟩ : ∃ d', d = d' + 1 := ⟨d - 1, by omega⟩
  unfold ixB
  rw [hG]
  simp only [if_pos trivial, if_pos hc]
  exact h
theorem Rn.copy {pc' : Nat} {ls' st' : List Value} {m' : xM} (hG : xG j pc = some (.invokestatic 9998, len)) (hd : 0 < d) (hx : x_copy (pc + len) ls st m = some (pc', ls', st', m')) (k : Rn d j pc' ls' st' m' P) : Rn d j pc ls st m P := by
  obtain ⟨n, r, m2, h, hp2⟩ := k
  refine ⟨n + 1, r, m2, ?_, hp2⟩
  show ixB xG xfty xacl xna xmx xrc xrk (Ix n) d j pc ls st m = _
  obtain ⟨d', rfl⟩ : ∃ d', d = d' + 1 := ⟨d - 1, by omega⟩
  unfold ixB
  rw [hG]
  simp only [if_pos trivial, hx]
  exact h
theorem Rn.clone {pc' : Nat} {ls' st' : List Value} {m' : xM} (hG : xG j pc = some (.invokevirtual 9997, len)) (hd : 0 < d) (hx : x_clone (pc + len) ls st m = some (pc', ls', st', m')) (k : Rn d j pc' ls' st' m' P) : Rn d j pc ls st m P := by
  obtain ⟨n, r, m2, h, hp2⟩ := k
  refine ⟨n + 1, r, m2, ?_, hp2⟩
  show ixB xG xfty xacl xna xmx xrc xrk (Ix n) d j pc ls st m = _
  obtain ⟨d', rfl⟩ : ∃ d', d = d' + 1 := ⟨d - 1, by omega⟩
  unfold ixB
  rw [hG]
  simp only [if_pos trivial, hx]
  exact h
theorem Rn.conseq (h : Rn d j pc ls st m P1) (hP : ∀ r m', P1 r m' → P r m') : Rn d j pc ls st m P := by
  obtain ⟨n, r, m', h1, h2⟩ := h
  exact ⟨n, r, m', h1, hP r m' h2⟩
theorem Rn.icmp {c : Jvm.ClassFile.Cond} {t : Int} {x y : Int32} {pc1 pc2 : Nat} (hG : xG j pc = some (.if_icmp c t, len)) (h1 : t.toNat = pc1) (h2 : pc + len = pc2) (k1 : xcnd c x y → Rn d j pc1 ls st m P) (k2 : ¬ xcnd c x y → Rn d j pc2 ls st m P) : Rn d j pc ls (.int y :: .int x :: st) m P := by
  subst h1 h2
  by_cases hc : xcndB c x y = true
  · refine Rn.step hG (by simp only [xs, if_pos hc]) (k1 ?_)
    cases c <;> simpa [xcnd, xcndB] using hc
  · refine Rn.step hG (by simp only [xs, if_neg hc]) (k2 ?_)
    cases c <;> simpa [xcnd, xcndB] using hc
theorem Rn.ifc {c : Jvm.ClassFile.Cond} {t : Int} {x : Int32} {pc1 pc2 : Nat} (hG : xG j pc = some (.ifCond c t, len)) (h1 : t.toNat = pc1) (h2 : pc + len = pc2) (k1 : xcnd c x 0 → Rn d j pc1 ls st m P) (k2 : ¬ xcnd c x 0 → Rn d j pc2 ls st m P) : Rn d j pc ls (.int x :: st) m P := by
  subst h1 h2
  by_cases hc : xcndB c x 0 = true
  · refine Rn.step hG (by simp only [xs, if_pos hc]) (k1 ?_)
    cases c <;> simpa [xcnd, xcndB] using hc
  · refine Rn.step hG (by simp only [xs, if_neg hc]) (k2 ?_)
    cases c <;> simpa [xcnd, xcndB] using hc
theorem Rn.iconst {n : Int} {v : Int32} {pc' : Nat} (hG : xG j pc = some (.iconst n, len)) (hv : Int32.ofInt n = v) (hp : pc + len = pc') (k : Rn d j pc' ls (.int v :: st) m P) : Rn d j pc ls st m P := by
  subst hv hp
  exact Rn.step hG rfl k
theorem Rn.ldc2 {n : Nat} {v : Int64} {pc' : Nat} (hG : xG j pc = some (.ldc2_w n, len)) (hv : Int64.ofNat n = v) (hp : pc + len = pc') (k : Rn d j pc' ls (.long v :: st) m P) : Rn d j pc ls st m P := by
  subst hv hp
  exact Rn.step hG rfl k
theorem Rn.getf {q a ci : Nat} {fs : List Value} {v : Value} {pc' : Nat} (hG : xG j pc = some (.getfield q, len)) (ha : m.2.2 a = some (.inr (ci, fs))) (hc : ci = q / 64) (hv : fs[q % 64]? = some v) (hp : pc + len = pc') (k : Rn d j pc' ls (v :: st) m P) : Rn d j pc ls (.ref a :: st) m P := by
  subst hp
  exact Rn.step hG (by simp only [xs, x_getf, ha, if_pos hc, hv]) k
theorem Rn.putf {q a ci : Nat} {fs : List Value} {v : Value} {ty : FieldType} {pc' : Nat} (hG : xG j pc = some (.putfield q, len)) (hl : a < xS) (ha : m.2.2 a = some (.inr (ci, fs))) (hc : ci = q / 64 ∧ q % 64 < fs.length) (hty : (xfty ci)[q % 64]? = some ty) (hn : narrow ty v = v ∧ fits ty v = true) (hp : pc + len = pc') (k : Rn d j pc' ls st (xset m a (.inr (ci, fs.set (q % 64) v))) P) : Rn d j pc ls (v :: .ref a :: st) m P := by
  subst hp
  exact Rn.step hG (by simp only [xs, x_putf, if_pos hl, ha, if_pos hc, hty, if_pos hn]) k
theorem Rn.iald {a n : Nat} {f : Nat → Int32} {i : Int32} {pc' : Nat} (hG : xG j pc = some (.iaload, len)) (ha : m.2.2 a = some (.inl (0, n, xints f))) (hi : vp_in i n) (hp : pc + len = pc') (k : Rn d j pc' ls (.int (f i.toNatClampNeg) :: st) m P) : Rn d j pc ls (.int i :: .ref a :: st) m P := by
  subst hp
  have hx : ¬ xout i n = true := by simpa [xout, vp_in] using hi
  exact Rn.step hG (by simp only [xs, x_iald, ha, if_neg hx]) k
theorem Rn.bald {a n t : Nat} {f : Nat → Int32} {i : Int32} {pc' : Nat} (hG : xG j pc = some (.baload, len)) (ht : t = 1 ∨ t = 3) (ha : m.2.2 a = some (.inl (t, n, xints f))) (hi : vp_in i n) (hp : pc + len = pc') (k : Rn d j pc' ls (.int (f i.toNatClampNeg) :: st) m P) : Rn d j pc ls (.int i :: .ref a :: st) m P := by
  subst hp
  have hx : ¬ xout i n = true := by simpa [xout, vp_in] using hi
  rcases ht with rfl | rfl
  · exact Rn.step hG (by simp only [xs, x_bald, ha, if_neg hx]) k
  · exact Rn.step hG (by simp only [xs, x_bald, ha, if_neg hx]) k
theorem Rn.lald {a n : Nat} {f : Nat → Int64} {i : Int32} {pc' : Nat} (hG : xG j pc = some (.laload, len)) (ha : m.2.2 a = some (.inl (2, n, xlongs f))) (hi : vp_in i n) (hp : pc + len = pc') (k : Rn d j pc' ls (.long (f i.toNatClampNeg) :: st) m P) : Rn d j pc ls (.int i :: .ref a :: st) m P := by
  subst hp
  have hx : ¬ xout i n = true := by simpa [xout, vp_in] using hi
  exact Rn.step hG (by simp only [xs, x_lald, ha, if_neg hx]) k
theorem Rn.iast {a n : Nat} {f : Nat → Int32} {i x : Int32} {pc' : Nat} (hG : xG j pc = some (.iastore, len)) (hl : a < xS) (ha : m.2.2 a = some (.inl (0, n, xints f))) (hi : vp_in i n) (hp : pc + len = pc') (k : Rn d j pc' ls st (xset m a (.inl (0, n, xints (upd f i.toNatClampNeg x)))) P) : Rn d j pc ls (.int x :: .int i :: .ref a :: st) m P := by
  subst hp
  have hx : ¬ xout i n = true := by simpa [xout, vp_in] using hi
  exact Rn.step hG (by simp only [xs, x_iast, if_pos hl, ha, if_neg hx]) k
theorem Rn.last {a n : Nat} {f : Nat → Int64} {i : Int32} {x : Int64} {pc' : Nat} (hG : xG j pc = some (.lastore, len)) (hl : a < xS) (ha : m.2.2 a = some (.inl (2, n, xlongs f))) (hi : vp_in i n) (hp : pc + len = pc') (k : Rn d j pc' ls st (xset m a (.inl (2, n, xlongs (vp_updL f i.toNatClampNeg x)))) P) : Rn d j pc ls (.long x :: .int i :: .ref a :: st) m P := by
  subst hp
  have hx : ¬ xout i n = true := by simpa [xout, vp_in] using hi
  exact Rn.step hG (by simp only [xs, x_last, if_pos hl, ha, if_neg hx]) k
end RN
