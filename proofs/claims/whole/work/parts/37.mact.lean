/-! THE MODEL: acts, and what is kept of them. -/
section MQ
variable {m0 : xM} {v : Nat → Int32} {dx : Int64} {A : Nat → Nat → Int32} {LA : Nat → Nat → Int64} {s : Nat → Int32}
theorem Rn.oald {d j pc len pc' : Nat} {ls st : List Value} {Q : Option Value → xM → Prop} {a n k : Nat} {i : Int32} (hG : xG j pc = some (.iaload, len)) (ha : mI a = some (0, n)) (h6 : a ≠ 60) (hi : i = nI k) (hk : k < n) (hn : n < 2147483648) (hp : pc + len = pc') (kk : Rn d j pc' ls (.int (A a k) :: st) (MS m0 v dx A LA s) Q) : Rn d j pc ls (.int i :: .ref a :: st) (MS m0 v dx A LA s) Q := by
  refine Rn.mald hG ha hi hk hn hp ?_
  rw [show va_up A 60 s a = A a by simp [va_up, h6]]
  exact kk
theorem Rn.oast {d j pc len pc' : Nat} {ls st : List Value} {Q : Option Value → xM → Prop} {a n k : Nat} {i x : Int32} (hG : xG j pc = some (.iastore, len)) (ha : mI a = some (0, n)) (h6 : a ≠ 60) (hi : i = nI k) (hk : k < n) (hn : n < 2147483648) (hp : pc + len = pc') (kk : Rn d j pc' ls st (MS m0 v dx (va_up A a (upd (A a) k x)) LA s) Q) : Rn d j pc ls (.int x :: .int i :: .ref a :: st) (MS m0 v dx A LA s) Q := by
  refine Rn.mast hG ha hi hk hn hp ?_
  rw [show va_up A 60 s a = A a by simp [va_up, h6], up_cm A h6.symm]
  exact kk
/-- the first n of f, the rest of g -/
def cpf (f g : Nat → Int32) (n : Nat) : Nat → Int32 := fun i => if i < n then f i else g i
theorem cpf_s (f g : Nat → Int32) (n : Nat) : upd (cpf f g n) n (f n) = cpf f g (n + 1) := by
  funext i
  unfold upd cpf
  by_cases h : i = n
  · subst h
    simp
  · by_cases h2 : i < n
    · simp [h, h2, show i < n + 1 by omega]
    · simp [h, h2, show ¬ i < n + 1 by omega]
theorem cpf_0 (f g : Nat → Int32) : cpf f g 0 = g := by
  funext i
  simp [cpf]
theorem nI_up {k N : Nat} (hN : N < 2 ^ 31) (hk : k ≤ N) (h : nI N ≤ nI k) : k = N := by
  have := (nI_leI hN (by omega)).mp h
  omega
theorem nI_dn {k N : Nat} (hN : N < 2 ^ 31) (hk : k ≤ N) (h : ¬ nI N ≤ nI k) : k < N := by
  have := mt (nI_leI (a := N) (b := k) hN (by omega)).mpr h
  omega
theorem l_M_keeps {d : Nat} {f : Nat → Int32} (k : Nat) (hk : k ≤ 52) : Rn d j_M_keeps 2 [.ref 50, .int (nI k)] [] (MS m0 v dx (va_up A 62 (cpf s f k)) LA s) (Pv (MS m0 v dx (va_up A 62 (cpf s f 52)) LA s)) := by
  refine Rn.step (pc' := 3) rfl rfl ?_
  refine Rn.iconst (v := 52) (pc' := 5) rfl (by decide) rfl ?_
  refine Rn.icmp_ge (pc1 := 26) (pc2 := 8) rfl rfl rfl (fun h5 => ?_) (fun h5 => ?_)
  · obtain rfl := nI_up (N := 52) (by omega) hk h5
    exact Rn.retv rfl (rfl)
  · have hk2 := nI_dn (N := 52) (by omega) hk h5
    refine Rn.step (pc' := 9) rfl rfl ?_
    refine Rn.getf (pc' := 12) rfl rfl rfl rfl rfl ?_
    refine Rn.step (pc' := 13) rfl rfl ?_
    refine Rn.step (pc' := 14) rfl rfl ?_
    refine Rn.getf (pc' := 17) rfl rfl rfl rfl rfl ?_
    refine Rn.step (pc' := 18) rfl rfl ?_
    refine Rn.sald (k := k) (pc' := 19) rfl rfl (by simp only [nI_lit, nI_add, pk_mul]) (by omega) (by decide) rfl ?_
    refine Rn.oast (k := k) (pc' := 20) rfl rfl (by decide) (by simp only [nI_lit, nI_add, pk_mul]) (by omega) (by decide) rfl ?_
    refine Rn.step (pc' := 23) rfl rfl ?_
    refine Rn.step (pc' := 2) rfl rfl ?_
    refine Rn.mm ?_ (Rn.ls2 rfl (congrArg Value.int (nI_i1 k)) (l_M_keeps (k + 1) (by omega)))
    rw [va_up_self, up_up, cpf_s]
termination_by 52 - k
theorem c_M_keeps {d : Nat} : Cl d j_M_keeps [.ref 50] (MS m0 v dx A LA s) (Pv (MS m0 v dx (va_up A 62 (cpf s (A 62) 52)) LA s)) := by
  show Rn d j_M_keeps 0 _ _ _ _
  refine Rn.iconst (v := 0) (pc' := 1) rfl (by decide) rfl ?_
  refine Rn.step (pc' := 2) rfl rfl ?_
  refine Rn.mm ?_ (l_M_keeps (f := A 62) 0 (by omega))
  rw [cpf_0, up_id]
theorem l_M_laysBack {d : Nat} (k : Nat) (hk : k ≤ 52) : Rn d j_M_laysBack 2 [.ref 50, .int (nI k)] [] (MS m0 v dx A LA (cpf (A 62) s k)) (Pv (MS m0 v dx A LA (cpf (A 62) s 52))) := by
  refine Rn.step (pc' := 3) rfl rfl ?_
  refine Rn.iconst (v := 52) (pc' := 5) rfl (by decide) rfl ?_
  refine Rn.icmp_ge (pc1 := 26) (pc2 := 8) rfl rfl rfl (fun h5 => ?_) (fun h5 => ?_)
  · obtain rfl := nI_up (N := 52) (by omega) hk h5
    exact Rn.retv rfl (rfl)
  · have hk2 := nI_dn (N := 52) (by omega) hk h5
    refine Rn.step (pc' := 9) rfl rfl ?_
    refine Rn.getf (pc' := 12) rfl rfl rfl rfl rfl ?_
    refine Rn.step (pc' := 13) rfl rfl ?_
    refine Rn.step (pc' := 14) rfl rfl ?_
    refine Rn.getf (pc' := 17) rfl rfl rfl rfl rfl ?_
    refine Rn.step (pc' := 18) rfl rfl ?_
    refine Rn.oald (k := k) (pc' := 19) rfl rfl (by decide) (by simp only [nI_lit, nI_add, pk_mul]) (by omega) (by decide) rfl ?_
    refine Rn.sast (k := k) (pc' := 20) rfl rfl (by simp only [nI_lit, nI_add, pk_mul]) (by omega) (by decide) rfl ?_
    refine Rn.step (pc' := 23) rfl rfl ?_
    refine Rn.step (pc' := 2) rfl rfl ?_
    refine Rn.mm ?_ (Rn.ls2 rfl (congrArg Value.int (nI_i1 k)) (l_M_laysBack (k + 1) (by omega)))
    rw [cpf_s]
termination_by 52 - k
theorem c_M_laysBack {d : Nat} : Cl d j_M_laysBack [.ref 50] (MS m0 v dx A LA s) (Pv (MS m0 v dx A LA (cpf (A 62) s 52))) := by
  show Rn d j_M_laysBack 0 _ _ _ _
  refine Rn.iconst (v := 0) (pc' := 1) rfl (by decide) rfl ?_
  refine Rn.step (pc' := 2) rfl rfl ?_
  refine Rn.mm ?_ (l_M_laysBack 0 (by omega))
  rw [cpf_0]
/-- laid back, if nothing beyond was changed -/
theorem cpf_back {s t f : Nat → Int32} (h : FX s t) : cpf (cpf s f 52) t 52 = s := by
  funext i
  unfold cpf
  by_cases hi : i < 52
  · simp [hi]
  · simp only [if_neg hi]
    exact h i (by unfold fxc; omega)
/-- acts that can be undone: rows of what was said -/
def HS (f : Nat → Int32) (n : Nat) (H : Nat → Nat → Int32) : Prop := ∀ i, i < n → ∀ k, k < 52 → f (52 * i + k) = H i k
def kN (n : Nat) : Nat := if n = 20 then 20 else n + 1
def kH (n : Nat) (H : Nat → Nat → Int32) (s : Nat → Int32) : Nat → Nat → Int32 := if n = 20 then fun i => if i = 19 then s else H (i + 1) else fun i => if i = n then s else H i
def shf (f : Nat → Int32) (k : Nat) : Nat → Int32 := fun i => if i + 52 < k then f (i + 52) else f i
def cpo (f s : Nat → Int32) (n k : Nat) : Nat → Int32 := fun i => if 52 * n ≤ i ∧ i < 52 * n + k then s (i - 52 * n) else f i
theorem shf_s (f : Nat → Int32) {k : Nat} (hk : 52 ≤ k) : upd (shf f k) (k - 52) (shf f k k) = shf f (k + 1) := by
  funext i
  unfold upd shf
  by_cases h : i = k - 52
  · subst h
    simp [show k - 52 + 52 = k by omega]
    omega
  · by_cases h2 : i + 52 < k
    · simp [h, h2, show i + 52 < k + 1 by omega]
    · simp [h, h2, show ¬ i + 52 < k + 1 by omega]
theorem cpo_s (f s : Nat → Int32) (n k : Nat) : upd (cpo f s n k) (52 * n + k) (s k) = cpo f s n (k + 1) := by
  funext i
  unfold upd cpo
  by_cases h : i = 52 * n + k
  · subst h
    simp [show 52 * n + k - 52 * n = k by omega]
  · by_cases h2 : 52 * n ≤ i ∧ i < 52 * n + k
    · simp only [if_neg h, if_pos h2, if_pos (show 52 * n ≤ i ∧ i < 52 * n + (k + 1) by omega)]
    · simp only [if_neg h, if_neg h2, if_neg (show ¬ (52 * n ≤ i ∧ i < 52 * n + (k + 1)) by omega)]
theorem nI_sub {a b : Nat} (h : b ≤ a) (ha : a < 2 ^ 31) : nI a - nI b = nI (a - b) := by
  have : nI a = nI (a - b) + nI b := by rw [nI_add, Nat.sub_add_cancel h]
  rw [this, Int32.add_sub_cancel]
theorem l_M_kA2 {d n : Nat} {f : Nat → Int32} (hn : v 27 = nI n) (h20 : n < 20) (k : Nat) (hk : k ≤ 52) : Rn d j_M_keepsAct 52 [.ref 50, .int (nI k)] [] (MS m0 v dx (va_up A 61 (cpo f s n k)) LA s) (Pv (MS m0 (upd v 27 (nI (n + 1))) dx (va_up A 61 (cpo f s n 52)) LA s)) := by
  refine Rn.step (pc' := 53) rfl rfl ?_
  refine Rn.iconst (v := 52) (pc' := 55) rfl (by decide) rfl ?_
  refine Rn.icmp_ge (pc1 := 84) (pc2 := 58) rfl rfl rfl (fun h55 => ?_) (fun h55 => ?_)
  · obtain rfl := nI_up (N := 52) (by omega) hk h55
    refine Rn.step (pc' := 85) rfl rfl ?_
    refine Rn.step (pc' := 86) rfl rfl ?_
    refine Rn.getf (pc' := 89) rfl rfl rfl rfl rfl ?_
    refine Rn.iconst (v := 1) (pc' := 90) rfl (by decide) rfl ?_
    refine Rn.iadd (pc' := 91) rfl rfl ?_
    refine Rn.mput (pc' := 94) rfl rfl rfl rfl (by decide) rfl ?_
    exact Rn.retv rfl (by rw [hn, nI_1])
  · have hk2 := nI_dn (N := 52) (by omega) hk h55
    refine Rn.step (pc' := 59) rfl rfl ?_
    refine Rn.getf (pc' := 62) rfl rfl rfl rfl rfl ?_
    refine Rn.iconst (v := 52) (pc' := 64) rfl (by decide) rfl ?_
    refine Rn.step (pc' := 65) rfl rfl ?_
    refine Rn.getf (pc' := 68) rfl rfl rfl rfl rfl ?_
    refine Rn.imul (pc' := 69) rfl rfl ?_
    refine Rn.step (pc' := 70) rfl rfl ?_
    refine Rn.iadd (pc' := 71) rfl rfl ?_
    refine Rn.step (pc' := 72) rfl rfl ?_
    refine Rn.getf (pc' := 75) rfl rfl rfl rfl rfl ?_
    refine Rn.step (pc' := 76) rfl rfl ?_
    refine Rn.sald (k := k) (pc' := 77) rfl rfl (by simp only [nI_lit, nI_add, pk_mul]) (by omega) (by decide) rfl ?_
    refine Rn.oast (k := 52 * n + k) (pc' := 78) rfl rfl (by decide) (by rw [hn]; simp only [nI_lit, nI_add, pk_mul]) (by omega) (by decide) rfl ?_
    refine Rn.step (pc' := 81) rfl rfl ?_
    refine Rn.step (pc' := 52) rfl rfl ?_
    refine Rn.mm ?_ (Rn.ls2 rfl (congrArg Value.int (nI_i1 k)) (l_M_kA2 hn h20 (k + 1) (by omega)))
    rw [va_up_self, up_up, cpo_s]
termination_by 52 - k
theorem l_M_kA {d n : Nat} {x : Value} (hn : v 27 = nI n) (h20 : n < 20) (hx : x = xb ∨ ∃ i, x = .int i) : Rn d j_M_keepsAct 50 [.ref 50, x] [] (MS m0 v dx A LA s) (Pv (MS m0 (upd v 27 (nI (n + 1))) dx (va_up A 61 (cpo (A 61) s n 52)) LA s)) := by
  refine Rn.iconst (v := 0) (pc' := 51) rfl (by decide) rfl ?_
  refine Rn.step (pc' := 52) rfl rfl ?_
  refine Rn.mm ?_ (l_M_kA2 (f := A 61) hn h20 0 (by omega))
  rw [show cpo (A 61) s n 0 = A 61 from funext fun i => if_neg (by omega), up_id]
theorem l_M_kA1 {d : Nat} {f : Nat → Int32} (hn : v 27 = nI 20) (k : Nat) (h52 : 52 ≤ k) (hk : k ≤ 1040) : Rn d j_M_keepsAct 12 [.ref 50, .int (nI k)] [] (MS m0 v dx (va_up A 61 (shf f k)) LA s) (Pv (MS m0 (upd v 27 (nI 20)) dx (va_up A 61 (cpo (shf f 1040) s 19 52)) LA s)) := by
  refine Rn.step (pc' := 13) rfl rfl ?_
  refine Rn.iconst (v := 1040) (pc' := 16) rfl (by decide) rfl ?_
  refine Rn.icmp_ge (pc1 := 40) (pc2 := 19) rfl rfl rfl (fun h16 => ?_) (fun h16 => ?_)
  · obtain rfl := nI_up (N := 1040) (by omega) hk h16
    refine Rn.step (pc' := 41) rfl rfl ?_
    refine Rn.step (pc' := 42) rfl rfl ?_
    refine Rn.getf (pc' := 45) rfl rfl rfl rfl rfl ?_
    refine Rn.iconst (v := 1) (pc' := 46) rfl (by decide) rfl ?_
    refine Rn.isub (pc' := 47) rfl rfl ?_
    refine Rn.mput (pc' := 50) rfl rfl rfl rfl (by decide) rfl ?_
    refine (l_M_kA (v := upd v 27 (v 27 - 1)) (n := 19) (show v 27 - 1 = nI 19 by rw [hn]; rfl) (by omega) (Or.inr ⟨_, rfl⟩)).conseq ?_
    rintro r m2 ⟨rfl, rfl⟩
    refine ⟨rfl, ?_⟩
    rw [upd_u, va_up_self, up_up]
  · have hk2 := nI_dn (N := 1040) (by omega) hk h16
    refine Rn.step (pc' := 20) rfl rfl ?_
    refine Rn.getf (pc' := 23) rfl rfl rfl rfl rfl ?_
    refine Rn.step (pc' := 24) rfl rfl ?_
    refine Rn.iconst (v := 52) (pc' := 26) rfl (by decide) rfl ?_
    refine Rn.isub (pc' := 27) rfl rfl ?_
    refine Rn.step (pc' := 28) rfl rfl ?_
    refine Rn.getf (pc' := 31) rfl rfl rfl rfl rfl ?_
    refine Rn.step (pc' := 32) rfl rfl ?_
    refine Rn.oald (k := k) (pc' := 33) rfl rfl (by decide) (by simp only [nI_lit, nI_add, pk_mul]) (by omega) (by decide) rfl ?_
    refine Rn.oast (k := k - 52) (pc' := 34) rfl rfl (by decide) (nI_sub (b := 52) (by omega) (by omega)) (by omega) (by decide) rfl ?_
    refine Rn.step (pc' := 37) rfl rfl ?_
    refine Rn.step (pc' := 12) rfl rfl ?_
    refine Rn.mm ?_ (Rn.ls2 rfl (congrArg Value.int (nI_i1 k)) (l_M_kA1 hn (k + 1) (by omega) (by omega)))
    rw [va_up_self, up_up, shf_s f h52]
termination_by 1040 - k
theorem c_M_keepsAct {d n : Nat} (hn : v 27 = nI n) (h20 : n ≤ 20) : Cl d j_M_keepsAct [.ref 50] (MS m0 v dx A LA s) (fun r m2 => r = none ∧ ∃ f, m2 = MS m0 (upd v 27 (nI (kN n))) dx (va_up A 61 f) LA s ∧ ∀ H, HS (A 61) n H → HS f (kN n) (kH n H s)) := by
  show Rn d j_M_keepsAct 0 _ _ _ _
  refine Rn.step (pc' := 1) rfl rfl ?_
  refine Rn.getf (pc' := 4) rfl rfl rfl rfl rfl ?_
  refine Rn.iconst (v := 20) (pc' := 6) rfl (by decide) rfl ?_
  refine Rn.icmp_ne (pc1 := 50) (pc2 := 9) rfl rfl rfl (fun h6 => ?_) (fun h6 => ?_)
  · have hne : n ≠ 20 := fun e => h6 (by rw [hn, e]; rfl)
    refine (l_M_kA hn (by omega) (Or.inl rfl)).conseq ?_
    rintro r m2 ⟨rfl, rfl⟩
    refine ⟨rfl, cpo (A 61) s n 52, by rw [kN, if_neg hne], fun H hH i hi k hk => ?_⟩
    rw [kH, if_neg hne]
    unfold cpo
    by_cases e : i = n
    · subst e
      rw [if_pos (by omega), show 52 * i + k - 52 * i = k by omega]
      simp
    · rw [if_neg (by omega)]
      simp only [if_neg e]
      exact hH i (by rw [kN, if_neg hne] at hi; omega) k hk
  · refine Rn.iconst (v := 52) (pc' := 11) rfl (by decide) rfl ?_
    refine Rn.step (pc' := 12) rfl rfl ?_
    have he : n = 20 := (nI_eq (by omega) (by omega)).mp (hn.symm.trans h6)
    subst he
    refine Rn.mm (m2 := MS m0 v dx (va_up A 61 (shf (A 61) 52)) LA s) (by rw [show shf (A 61) 52 = A 61 from funext fun i => if_neg (by omega), up_id]) ((l_M_kA1 (f := A 61) hn 52 (by omega) (by omega)).conseq ?_)
    rintro r m2 ⟨rfl, rfl⟩
    refine ⟨rfl, _, rfl, fun H hH i hi k hk => ?_⟩
    rw [kN, if_pos rfl] at hi
    rw [kH, if_pos rfl]
    unfold cpo shf
    by_cases e : i = 19
    · subst e
      rw [if_pos (by omega), show 52 * 19 + k - 52 * 19 = k by omega]
      simp
    · rw [if_neg (by omega), if_pos (by omega)]
      simp only [if_neg e]
      have := hH (i + 1) (by omega) k hk
      rw [← this]
      congr 1
      omega
theorem l_M_undo {d n : Nat} (hn : v 27 = nI n) (h20 : n < 20) (k : Nat) (hk : k ≤ 52) : Rn d j_M_undo 21 [.ref 50, .int (nI k)] [] (MS m0 v dx A LA (cpf (fun i => A 61 (52 * n + i)) s k)) (Pi (nI n) (MS m0 v dx A LA (cpf (fun i => A 61 (52 * n + i)) s 52))) := by
  refine Rn.step (pc' := 22) rfl rfl ?_
  refine Rn.iconst (v := 52) (pc' := 24) rfl (by decide) rfl ?_
  refine Rn.icmp_ge (pc1 := 53) (pc2 := 27) rfl rfl rfl (fun h24 => ?_) (fun h24 => ?_)
  · obtain rfl := nI_up (N := 52) (by omega) hk h24
    refine Rn.step (pc' := 54) rfl rfl ?_
    refine Rn.getf (pc' := 57) rfl rfl rfl rfl rfl ?_
    exact Rn.reti rfl (rfl) (hn) (rfl)
  · have hk2 := nI_dn (N := 52) (by omega) hk h24
    refine Rn.step (pc' := 28) rfl rfl ?_
    refine Rn.getf (pc' := 31) rfl rfl rfl rfl rfl ?_
    refine Rn.step (pc' := 32) rfl rfl ?_
    refine Rn.step (pc' := 33) rfl rfl ?_
    refine Rn.getf (pc' := 36) rfl rfl rfl rfl rfl ?_
    refine Rn.iconst (v := 52) (pc' := 38) rfl (by decide) rfl ?_
    refine Rn.step (pc' := 39) rfl rfl ?_
    refine Rn.getf (pc' := 42) rfl rfl rfl rfl rfl ?_
    refine Rn.imul (pc' := 43) rfl rfl ?_
    refine Rn.step (pc' := 44) rfl rfl ?_
    refine Rn.iadd (pc' := 45) rfl rfl ?_
    refine Rn.oald (k := 52 * n + k) (pc' := 46) rfl rfl (by decide) (by rw [hn]; simp only [nI_lit, nI_add, pk_mul]) (by omega) (by decide) rfl ?_
    refine Rn.sast (k := k) (pc' := 47) rfl rfl (by simp only [nI_lit, nI_add, pk_mul]) (by omega) (by decide) rfl ?_
    refine Rn.step (pc' := 50) rfl rfl ?_
    refine Rn.step (pc' := 21) rfl rfl ?_
    refine Rn.mm ?_ (Rn.ls2 rfl (congrArg Value.int (nI_i1 k)) (l_M_undo hn h20 (k + 1) (by omega)))
    rw [← cpf_s]
termination_by 52 - k
/-- undone -/
def uS (n : Nat) (H : Nat → Nat → Int32) (s : Nat → Int32) : Nat → Int32 := if n = 0 then s else cpf (H (n - 1)) s 52
def uA (n : Nat) : Int32 := if n = 0 then -1 else nI (n - 1)
theorem c_M_undo {d n : Nat} {H : Nat → Nat → Int32} (hn : v 27 = nI n) (h20 : n ≤ 20) (hH : HS (A 61) n H) : Cl d j_M_undo [.ref 50] (MS m0 v dx A LA s) (Pi (uA n) (MS m0 (upd v 27 (nI (n - 1))) dx A LA (uS n H s))) := by
  show Rn d j_M_undo 0 _ _ _ _
  refine Rn.step (pc' := 1) rfl rfl ?_
  refine Rn.getf (pc' := 4) rfl rfl rfl rfl rfl ?_
  refine Rn.ifc_ne (pc1 := 9) (pc2 := 7) rfl rfl rfl (fun h4 => ?_) (fun h4 => ?_)
  · refine Rn.step (pc' := 10) rfl rfl ?_
    refine Rn.step (pc' := 11) rfl rfl ?_
    refine Rn.getf (pc' := 14) rfl rfl rfl rfl rfl ?_
    refine Rn.iconst (v := 1) (pc' := 15) rfl (by decide) rfl ?_
    refine Rn.isub (pc' := 16) rfl rfl ?_
    refine Rn.mput (pc' := 19) rfl rfl rfl rfl (by decide) rfl ?_
    refine Rn.iconst (v := 0) (pc' := 20) rfl (by decide) rfl ?_
    refine Rn.step (pc' := 21) rfl rfl ?_
    have hne : n ≠ 0 := fun e => h4 (by rw [hn, e]; rfl)
    refine Rn.mm (m2 := MS m0 (upd v 27 (nI (n - 1))) dx A LA (cpf (fun i => A 61 (52 * (n - 1) + i)) s 0)) (by
      rw [cpf_0, hn, show nI n - 1 = nI (n - 1) from nI_sub (b := 1) (by omega) (by omega)]) ((l_M_undo (v := upd v 27 (nI (n - 1))) (upd_s _ _ _) (by omega) 0 (by omega)).conseq ?_)
    rintro r m2 ⟨rfl, rfl⟩
    refine ⟨by rw [uA, if_neg hne], ?_⟩
    rw [uS, if_neg hne]
    refine congrArg (MS m0 _ dx A LA) (funext fun i => ?_)
    unfold cpf
    by_cases hi : i < 52
    · simp only [if_pos hi]
      exact hH (n - 1) (by omega) i hi
    · simp only [if_neg hi]
  · refine Rn.iconst (v := (-1)) (pc' := 8) rfl (by decide) rfl ?_
    exact Rn.iret rfl (rfl) (by
        have e : n = 0 := (nI_eq (by omega) (by omega)).mp (hn.symm.trans h4)
        subst e
        exact ⟨rfl, by rw [show nI (0 - 1) = v 27 from hn.symm, upd_id]; rfl⟩)
end MQ
