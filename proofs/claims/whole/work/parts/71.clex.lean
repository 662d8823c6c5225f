/-! THE TEXT: what stands on the tape, told once for both; the class: strings, words. -/
section CV
variable {m0 : xM} {F I : Nat → Nat → Int32} {L : Nat → Nat → Int64} {R : Nat → Nat → Option Nat} {H : Value} {s w : Nat → Int32} {o : Nat} {gg : Prop}
def rnF (lo hi : Int32) (T : Nat → Int32) (n : Nat) : Nat → Nat → Nat
  | 0, i => i
  | f + 1, i => if i < n ∧ lo ≤ T i ∧ T i ≤ hi then rnF lo hi T n f (i + 1) else i
/-- where a run of such bytes ends -/
def rnE (lo hi : Int32) (T : Nat → Int32) (n i : Nat) : Nat := rnF lo hi T n (n - i) i
section RE
variable {lo hi : Int32} {T : Nat → Int32} {n i : Nat}
theorem rnE_s (h : i < n ∧ lo ≤ T i ∧ T i ≤ hi) : rnE lo hi T n i = rnE lo hi T n (i + 1) := by
  unfold rnE
  rw [show n - i = n - (i + 1) + 1 by omega]
  simp only [rnF, if_pos h]
theorem rnE_z (h : ¬ (i < n ∧ lo ≤ T i ∧ T i ≤ hi)) : rnE lo hi T n i = i := by
  unfold rnE
  cases n - i with
  | zero => rfl
  | succ f => simp only [rnF, if_neg h]
theorem rnF_b : ∀ f i, i ≤ rnF lo hi T n f i ∧ (i ≤ n → rnF lo hi T n f i ≤ n) ∧ ∀ k, i ≤ k → k < rnF lo hi T n f i → k < n ∧ lo ≤ T k ∧ T k ≤ hi
  | 0, i => ⟨Nat.le_refl _, fun h => h, fun k a b => absurd b (by simp only [rnF]; omega)⟩
  | f + 1, i => by
    simp only [rnF]
    by_cases h : i < n ∧ lo ≤ T i ∧ T i ≤ hi
    · rw [if_pos h]
      obtain ⟨a, b, c⟩ := rnF_b f (i + 1)
      refine ⟨by omega, fun _ => b (by omega), fun k h1 h2 => ?_⟩
      by_cases e : k = i
      · subst e
        exact h
      · exact c k (by omega) h2
    · rw [if_neg h]
      exact ⟨Nat.le_refl _, fun h => h, fun k a b => absurd b (by omega)⟩
theorem rnE_ge : i ≤ rnE lo hi T n i := (rnF_b _ _).1
theorem rnE_le (h : i ≤ n) : rnE lo hi T n i ≤ n := (rnF_b _ _).2.1 h
theorem rnE_in {k : Nat} (h1 : i ≤ k) (h2 : k < rnE lo hi T n i) : k < n ∧ lo ≤ T k ∧ T k ≤ hi := (rnF_b _ _).2.2 k h1 h2
theorem rnE_out (lo hi : Int32) (T : Nat → Int32) (n i : Nat) : ¬ (rnE lo hi T n i < n ∧ lo ≤ T (rnE lo hi T n i) ∧ T (rnE lo hi T n i) ≤ hi) := by
  by_cases h : i < n ∧ lo ≤ T i ∧ T i ≤ hi
  · rw [rnE_s h]
    exact rnE_out lo hi T n (i + 1)
  · rw [rnE_z h]
    exact h
termination_by n - i
end RE
/-- behind the blanks -/
def skE (T : Nat → Int32) (n i : Nat) : Nat := rnE 32 32 T n i
/-- where the letters end -/
def leE (T : Nat → Int32) (n p : Nat) : Nat := rnE 97 122 T n p
/-- these letters stand from p to q -/
abbrev wdP (T : Nat → Int32) (p q : Nat) (ws : List Nat) : Prop := q - p = ws.length ∧ ∀ k, k < ws.length → T (p + k) = nI (ws.getD k 0)
def wix (T : Nat → Int32) (p q : Nat) : List (List Nat) → Nat → Int32
  | [], _ => -1
  | x :: r, k => if wdP T p q x then nI k else wix T p q r (k + 1)
abbrev pWd (T : Nat → Int32) (g : Nat → Nat) (p q fr to : Nat) : Prop := q - p = to - fr ∧ ∀ k, k < to - fr → T (p + k) = nI (g (fr + k))
theorem pWd_wd {T : Nat → Int32} {g : Nat → Nat} {p q fr to : Nat} {x : List Nat} (h1 : to - fr = x.length) (h2 : ∀ k, k < x.length → g (fr + k) = x.getD k 0) : pWd T g p q fr to ↔ wdP T p q x := by
  show (q - p = to - fr ∧ _) ↔ _
  rw [h1]
  exact ⟨fun h => ⟨h.1, fun k hk => by rw [h.2 k hk, h2 k hk]⟩, fun h => ⟨h.1, fun k hk => by rw [h.2 k hk, h2 k hk]⟩⟩
def wiL (T : Nat → Int32) (g : Nat → Nat) (N p q : Nat) : Nat → Nat → Nat → Nat → Int32
  | 0, _, _, _ => -1
  | f + 1, i, fr, k => if i = N ∨ g i = 32 then (if pWd T g p q fr i then nI k else wiL T g N p q f (i + 1) (i + 1) (k + 1)) else wiL T g N p q f (i + 1) fr k

/-- a string lies at a, of the bytes g -/
def Str (m : xM) (a N : Nat) (g : Nat → Nat) : Prop := ∃ b f, m.2.2 a = some (.inr (90, [.ref b, .int 0])) ∧ m.2.2 b = some (.inl (1, N, xints f)) ∧ N ≤ 100 ∧ ∀ i, i < N → f i = nI (g i) ∧ g i < 128
theorem shr0 (x : Int32) : x >>> ((0 : Int32) &&& 31) = x := by
  rw [show ((0 : Int32) &&& 31) = 0 by decide]
  exact Int32.shiftRight_zero
theorem chr_all : ∀ c : Fin 128, nI c.1 &&& 255 = nI c.1 ∧ ((nI c.1).toUInt32 % 65536).toInt32 = nI c.1 ∧ narrow .char (.int (nI c.1)) = .int (nI c.1) := by decide +kernel
theorem chr_at {c : Nat} (h : c < 128) : nI c &&& 255 = nI c ∧ ((nI c).toUInt32 % 65536).toInt32 = nI c ∧ narrow .char (.int (nI c)) = .int (nI c) := chr_all ⟨c, h⟩
section SR
variable {d a b N : Nat} {m : xM} {f : Nat → Int32} {g : Nat → Nat}
theorem c_S_coder (ha : m.2.2 a = some (.inr (90, [.ref b, .int 0]))) : Cl d j_String_coder [.ref a] m (Pi 0 m) := by
  show Rn d j_String_coder 0 _ _ _ _
  refine Rn.step (pc' := 3) rfl rfl ?_
  refine Rn.ifc_eq (pc1 := 13) (pc2 := 6) rfl rfl rfl (fun h3 => absurd h3 (by decide)) (fun h3 => ?_)
  refine Rn.step (pc' := 7) rfl rfl ?_
  refine Rn.getf (pc' := 10) rfl (ha) rfl rfl rfl ?_
  refine Rn.step (pc' := 14) rfl rfl ?_
  exact Rn.iret rfl (rfl) (⟨rfl, rfl⟩)
theorem c_S_lat (ha : m.2.2 a = some (.inr (90, [.ref b, .int 0]))) : Cl d j_String_isLatin1 [.ref a] m (Pi 1 m) := by
  show Rn d j_String_isLatin1 0 _ _ _ _
  refine Rn.step (pc' := 3) rfl rfl ?_
  refine Rn.ifc_eq (pc1 := 17) (pc2 := 6) rfl rfl rfl (fun h3 => absurd h3 (by decide)) (fun h3 => ?_)
  refine Rn.step (pc' := 7) rfl rfl ?_
  refine Rn.getf (pc' := 10) rfl (ha) rfl rfl rfl ?_
  refine Rn.ifc_ne (pc1 := 17) (pc2 := 13) rfl rfl rfl (fun h10 => absurd h10 (fun z => z rfl)) (fun h10 => ?_)
  refine Rn.iconst (v := 1) (pc' := 14) rfl (by decide) rfl ?_
  refine Rn.step (pc' := 18) rfl rfl ?_
  exact Rn.iret rfl (rfl) (⟨rfl, rfl⟩)
theorem c_S_len (hd : 1 ≤ d) (hS : Str m a N g) : Cl d j_String_length [.ref a] m (Pi (nI N) m) := by
  obtain ⟨b, f, ha, hb, hN, hf⟩ := hS
  show Rn d j_String_length 0 _ _ _ _
  refine Rn.step (pc' := 1) rfl rfl ?_
  refine Rn.getf (pc' := 4) rfl (ha) rfl rfl rfl ?_
  refine Rn.alen (pc' := 5) rfl hb (by decide) rfl ?_
  refine Rn.step (pc' := 6) rfl rfl ?_
  refine Rn.vi (pc' := 9) rfl (by decide) (by omega) rfl (rcvA ha rfl) rfl (c_S_coder ha) ?_
  refine Rn.ishr (pc' := 10) rfl rfl ?_
  exact Rn.iret rfl (rfl) (⟨congrArg (fun z => some (Value.int z)) (shr0 _), rfl⟩)
theorem c_S_chk {y : Nat} (hd : 1 ≤ d) {i : Nat} (hi : i < N) (hN : N ≤ 100) : Cl d j_Preconditions_checkIndex [.int (nI i), .int (nI N), .ref y] m (Pi (nI i) m) := by
  show Rn d j_Preconditions_checkIndex 0 _ _ _ _
  refine Rn.step (pc' := 1) rfl rfl ?_
  refine Rn.ifc_lt (pc1 := 9) (pc2 := 4) rfl rfl rfl (fun h1 => absurd h1 (nI_pos (by omega))) (fun h1 => ?_)
  refine Rn.step (pc' := 5) rfl rfl ?_
  refine Rn.step (pc' := 6) rfl rfl ?_
  refine Rn.icmp_lt (pc1 := 16) (pc2 := 9) rfl rfl rfl (fun h6 => ?_) (fun h6 => absurd ((nI_ltI (by omega) (by omega)).mpr hi) h6)
  refine Rn.step (pc' := 17) rfl rfl ?_
  exact Rn.iret rfl (rfl) (⟨rfl, rfl⟩)
theorem c_S_chk2 (hd : 2 ≤ d) {i : Nat} (hi : i < N) (hN : N ≤ 100) : Cl d j_String_checkIndex [.int (nI i), .int (nI N)] m (Pv m) := by
  show Rn d j_String_checkIndex 0 _ _ _ _
  refine Rn.step (pc' := 1) rfl rfl ?_
  refine Rn.step (pc' := 2) rfl rfl ?_
  refine Rn.step (pc' := 5) rfl rfl ?_
  refine Rn.si (pc' := 8) rfl (by decide) (by omega) rfl rfl (c_S_chk (by omega) hi hN) ?_
  refine Rn.step (pc' := 9) rfl rfl ?_
  exact Rn.vret rfl (⟨rfl, rfl⟩)
theorem c_S_l1 (hd : 3 ≤ d) {i : Nat} (hi : i < N) (hb : m.2.2 b = some (.inl (1, N, xints f))) (hN : N ≤ 100) (hf : f i = nI (g i) ∧ g i < 128) : Cl d j_StringLatin1_charAt [.ref b, .int (nI i)] m (Pi (nI (g i)) m) := by
  show Rn d j_StringLatin1_charAt 0 _ _ _ _
  obtain ⟨e1, e2, e3⟩ := chr_at hf.2
  refine Rn.step (pc' := 1) rfl rfl ?_
  refine Rn.step (pc' := 2) rfl rfl ?_
  refine Rn.alen (pc' := 3) rfl hb (by decide) rfl ?_
  refine Rn.sv (pc' := 6) rfl (by decide) (by omega) rfl rfl (c_S_chk2 (by omega) hi hN) ?_
  refine Rn.step (pc' := 7) rfl rfl ?_
  refine Rn.step (pc' := 8) rfl rfl ?_
  refine Rn.bald (pc' := 9) rfl (Or.inl rfl) hb (vp_in_nI hi (by omega)) rfl ?_
  rw [nI_clamp (by omega), hf.1]
  refine Rn.iconst (v := 255) (pc' := 12) rfl (by decide) rfl ?_
  refine Rn.iand (pc' := 13) rfl rfl ?_
  rw [e1]
  refine Rn.i2c (pc' := 14) rfl rfl ?_
  rw [e2]
  exact Rn.iret rfl (e3) (⟨rfl, rfl⟩)
theorem c_S_at (hd : 4 ≤ d) {i : Nat} (hi : i < N) (hS : Str m a N g) : Cl d j_String_charAt [.ref a, .int (nI i)] m (Pi (nI (g i)) m) := by
  obtain ⟨b, f, ha, hb, hN, hf⟩ := hS
  obtain ⟨e1, e2, e3⟩ := chr_at (hf i hi).2
  show Rn d j_String_charAt 0 _ _ _ _
  refine Rn.step (pc' := 1) rfl rfl ?_
  refine Rn.vi (pc' := 4) rfl (by decide) (by omega) rfl (rcvA ha rfl) rfl (c_S_lat ha) ?_
  refine Rn.ifc_eq (pc1 := 16) (pc2 := 7) rfl rfl rfl (fun h4 => absurd h4 (by decide)) (fun h4 => ?_)
  refine Rn.step (pc' := 8) rfl rfl ?_
  refine Rn.getf (pc' := 11) rfl (ha) rfl rfl rfl ?_
  refine Rn.step (pc' := 12) rfl rfl ?_
  refine Rn.si (pc' := 15) rfl (by decide) (by omega) rfl rfl (c_S_l1 (by omega) hi hb hN (hf i hi)) ?_
  exact Rn.iret rfl (e3) (⟨rfl, rfl⟩)
end SR
theorem l_T_run {d n : Nat} {x : Value} {lo hi_ : Int32} (hn : F 1 1 = nI n) (h4 : n ≤ 400) (i : Nat) (hi : i ≤ n) : Rn d j_Tape_runEnd 3 [.ref 1, x, .int lo, .int hi_, .int (nI i)] [] (CC m0 F I L R H) (Pi (nI (rnE lo hi_ (I 2) n i)) (CC m0 F I L R H)) := by
  refine Rn.step (pc' := 5) rfl rfl ?_
  refine Rn.step (pc' := 6) rfl rfl ?_
  refine Rn.getf (pc' := 9) rfl rfl rfl rfl rfl ?_
  refine Rn.icmp_ge (pc1 := 40) (pc2 := 12) rfl rfl rfl (fun h9 => ?_) (fun h9 => ?_)
  · refine Rn.step (pc' := 42) rfl rfl ?_
    exact Rn.iret rfl (rfl) (⟨by rw [rnE_z (fun z => absurd (nI_up (by omega) hi (hn ▸ h9)) (by omega))], rfl⟩)
  · rw [hn] at h9
    have hi2 := nI_dn (by omega) hi h9
    refine Rn.step (pc' := 13) rfl rfl ?_
    refine Rn.getf (pc' := 16) rfl rfl rfl rfl rfl ?_
    refine Rn.step (pc' := 18) rfl rfl ?_
    refine Rn.cbald (k := i) (pc' := 19) rfl rfl (rfl) (by omega) (rfl) (by decide) rfl ?_
    refine Rn.step (pc' := 20) rfl rfl ?_
    refine Rn.icmp_lt (pc1 := 40) (pc2 := 23) rfl rfl rfl (fun h20 => ?_) (fun h20 => ?_)
    · refine Rn.step (pc' := 42) rfl rfl ?_
      exact Rn.iret rfl (rfl) (⟨by rw [rnE_z (fun z => absurd h20 (Int32.not_lt.mpr z.2.1))], rfl⟩)
    · refine Rn.step (pc' := 24) rfl rfl ?_
      refine Rn.getf (pc' := 27) rfl rfl rfl rfl rfl ?_
      refine Rn.step (pc' := 29) rfl rfl ?_
      refine Rn.cbald (k := i) (pc' := 30) rfl rfl (rfl) (by omega) (rfl) (by decide) rfl ?_
      refine Rn.step (pc' := 31) rfl rfl ?_
      refine Rn.icmp_gt (pc1 := 40) (pc2 := 34) rfl rfl rfl (fun h31 => ?_) (fun h31 => ?_)
      · refine Rn.step (pc' := 42) rfl rfl ?_
        exact Rn.iret rfl (rfl) (⟨by rw [rnE_z (fun z => absurd h31 (Int32.not_lt.mpr z.2.2))], rfl⟩)
      · refine Rn.step (pc' := 37) rfl rfl ?_
        refine Rn.step (pc' := 3) rfl rfl ?_
        rw [rnE_s ⟨hi2, Int32.not_lt.mp h20, Int32.not_lt.mp h31⟩]
        exact Rn.ls5 rfl rfl rfl rfl (congrArg Value.int (nI_i1 i)) (l_T_run hn h4 (i + 1) (by omega))
termination_by n - i
theorem c_T_run {d n : Nat} {lo hi_ : Int32} (hn : F 1 1 = nI n) (h4 : n ≤ 400) (i : Nat) (hi : i ≤ n) : Cl d j_Tape_runEnd [.ref 1, .int (nI i), .int lo, .int hi_] (CC m0 F I L R H) (Pi (nI (rnE lo hi_ (I 2) n i)) (CC m0 F I L R H)) := by
  show Rn d j_Tape_runEnd 0 _ _ _ _
  refine Rn.step (pc' := 1) rfl rfl ?_
  refine Rn.step (pc' := 3) rfl rfl ?_
  exact l_T_run hn h4 i hi
theorem c_T_fail {d p k : Nat} (hp : F 1 4 = nI p) : Cl d j_Tape_fail [.ref 1, .int (nI k)] (CC m0 F I L R H) (Pi 0 (CC m0 (va_up F 1 (upd (F 1) 2 (nI (1 + 8 * p + k)))) I L R H)) := by
  show Rn d j_Tape_fail 0 _ _ _ _
  refine Rn.step (pc' := 1) rfl rfl ?_
  refine Rn.iconst (v := 1) (pc' := 2) rfl (by decide) rfl ?_
  refine Rn.iconst (v := 8) (pc' := 4) rfl (by decide) rfl ?_
  refine Rn.step (pc' := 5) rfl rfl ?_
  refine Rn.getf (pc' := 8) rfl rfl rfl rfl rfl ?_
  refine Rn.imul (pc' := 9) rfl rfl ?_
  refine Rn.iadd (pc' := 10) rfl rfl ?_
  refine Rn.step (pc' := 11) rfl rfl ?_
  refine Rn.iadd (pc' := 12) rfl rfl ?_
  rw [show (1 : Int32) + 8 * F 1 4 + nI k = nI (1 + 8 * p + k) by rw [hp]; simp only [nI_lit, nI_add, pk_mul]]
  refine Rn.cput (pc' := 15) rfl rfl rfl rfl rfl (by decide) rfl ?_
  refine Rn.iconst (v := 0) (pc' := 16) rfl (by decide) rfl ?_
  exact Rn.iret rfl (rfl) (⟨rfl, rfl⟩)
theorem c_T_sign {d : Nat} (c : Int32) : Cl d j_Tape_isSign [.ref 1, .int c] (CC m0 F I L R H) (Pi (if F 1 3 = 3 ∧ F 1 6 = c then 1 else 0) (CC m0 F I L R H)) := by
  show Rn d j_Tape_isSign 0 _ _ _ _
  refine Rn.step (pc' := 1) rfl rfl ?_
  refine Rn.getf (pc' := 4) rfl rfl rfl rfl rfl ?_
  refine Rn.iconst (v := 3) (pc' := 5) rfl (by decide) rfl ?_
  refine Rn.icmp_ne (pc1 := 20) (pc2 := 8) rfl rfl rfl (fun h5 => ?_) (fun h5 => ?_)
  · refine Rn.iconst (v := 0) (pc' := 21) rfl (by decide) rfl ?_
    exact Rn.iret rfl (rfl) (⟨by rw [if_neg (fun z => h5 z.1)], rfl⟩)
  · refine Rn.step (pc' := 9) rfl rfl ?_
    refine Rn.getf (pc' := 12) rfl rfl rfl rfl rfl ?_
    refine Rn.step (pc' := 13) rfl rfl ?_
    refine Rn.icmp_ne (pc1 := 20) (pc2 := 16) rfl rfl rfl (fun h13 => ?_) (fun h13 => ?_)
    · refine Rn.iconst (v := 0) (pc' := 21) rfl (by decide) rfl ?_
      exact Rn.iret rfl (rfl) (⟨by rw [if_neg (fun z => h13 z.2)], rfl⟩)
    · refine Rn.iconst (v := 1) (pc' := 17) rfl (by decide) rfl ?_
      refine Rn.step (pc' := 21) rfl rfl ?_
      exact Rn.iret rfl (rfl) (⟨by rw [if_pos ⟨h5, h13⟩], rfl⟩)
theorem c_T_long {d p q : Nat} (hp : F 1 4 = nI p) (hq : F 1 5 = nI q) (h1 : p ≤ q) (h2 : q ≤ 400) : Cl d j_Tape_isTooLong [.ref 1] (CC m0 F I L R H) (Pi (if q - p ≤ 5 then 0 else 1) (CC m0 F I L R H)) := by
  show Rn d j_Tape_isTooLong 0 _ _ _ _
  have e : F 1 5 - F 1 4 = nI (q - p) := by rw [hp, hq, nI_sub h1 (by omega)]
  refine Rn.step (pc' := 1) rfl rfl ?_
  refine Rn.getf (pc' := 4) rfl rfl rfl rfl rfl ?_
  refine Rn.step (pc' := 5) rfl rfl ?_
  refine Rn.getf (pc' := 8) rfl rfl rfl rfl rfl ?_
  refine Rn.isub (pc' := 9) rfl rfl ?_
  refine Rn.iconst (v := 5) (pc' := 10) rfl (by decide) rfl ?_
  refine Rn.icmp_le (pc1 := 17) (pc2 := 13) rfl rfl rfl (fun h10 => ?_) (fun h10 => ?_)
  · refine Rn.iconst (v := 0) (pc' := 18) rfl (by decide) rfl ?_
    exact Rn.iret rfl (rfl) (⟨by rw [if_pos ((nI_leI (a := q - p) (b := 5) (by omega) (by omega)).mp (by rw [e] at h10; exact h10))], rfl⟩)
  · refine Rn.iconst (v := 1) (pc' := 14) rfl (by decide) rfl ?_
    refine Rn.step (pc' := 18) rfl rfl ?_
    exact Rn.iret rfl (rfl) (⟨by rw [if_neg (fun z => h10 (by rw [e]; exact (nI_leI (a := q - p) (b := 5) (by omega) (by omega)).mpr z))], rfl⟩)
theorem l_T_part {d p q a N fr to : Nat} {g : Nat → Nat} (hd : 5 ≤ d) (hp : F 1 4 = nI p) (hq : q - p = to - fr) (h2 : p ≤ q ∧ q ≤ 400) (hf : fr ≤ to) (hN : to ≤ N ∧ N ≤ 100) (hS : Str (CC m0 F I L R H) a N g) (i : Nat) (hfi : fr ≤ i) (hi : i ≤ to) (hall : ∀ k, k < i - fr → I 2 (p + k) = nI (g (fr + k))) : Rn d j_Tape_isPart 20 [.ref 1, .ref a, .int (nI fr), .int (nI to), .int (nI i)] [] (CC m0 F I L R H) (Pi (if pWd (I 2) g p q fr to then 1 else 0) (CC m0 F I L R H)) := by
  refine Rn.step (pc' := 22) rfl rfl ?_
  refine Rn.step (pc' := 23) rfl rfl ?_
  refine Rn.icmp_ge (pc1 := 57) (pc2 := 26) rfl rfl rfl (fun h23 => ?_) (fun h23 => ?_)
  · obtain rfl := nI_up (by omega) hi h23
    refine Rn.iconst (v := 1) (pc' := 58) rfl (by decide) rfl ?_
    exact Rn.iret rfl (rfl) (⟨by rw [if_pos ⟨hq, fun k hk => hall k hk⟩], rfl⟩)
  · have hi2 := nI_dn (by omega) hi h23
    refine Rn.step (pc' := 27) rfl rfl ?_
    refine Rn.getf (pc' := 30) rfl rfl rfl rfl rfl ?_
    refine Rn.step (pc' := 31) rfl rfl ?_
    refine Rn.getf (pc' := 34) rfl rfl rfl rfl rfl ?_
    refine Rn.step (pc' := 36) rfl rfl ?_
    refine Rn.iadd (pc' := 37) rfl rfl ?_
    refine Rn.step (pc' := 38) rfl rfl ?_
    refine Rn.isub (pc' := 39) rfl rfl ?_
    refine Rn.cbald (k := p + (i - fr)) (pc' := 40) rfl rfl (by rw [hp, nI_add, nI_sub (by omega) (by omega), show p + i - fr = p + (i - fr) by omega]) (by omega) (rfl) (by decide) rfl ?_
    refine Rn.step (pc' := 41) rfl rfl ?_
    refine Rn.step (pc' := 43) rfl rfl ?_
    refine Rn.vi (pc' := 46) rfl (by decide) (by omega) rfl (by obtain ⟨b, f, ha, _⟩ := hS; exact rcvA ha rfl) rfl (c_S_at (by omega) (by omega) hS) ?_
    refine Rn.icmp_eq (pc1 := 51) (pc2 := 49) rfl rfl rfl (fun h46 => ?_) (fun h46 => ?_)
    · refine Rn.step (pc' := 54) rfl rfl ?_
      refine Rn.step (pc' := 20) rfl rfl ?_
      exact Rn.ls5 rfl rfl rfl rfl (congrArg Value.int (nI_i1 i)) (l_T_part hd hp hq h2 hf hN hS (i + 1) (by omega) (by omega) (fun k hk => by
        by_cases e : k = i - fr
        · subst e
          rw [show fr + (i - fr) = i by omega]
          exact h46
        · exact hall k (by omega)))
    · refine Rn.iconst (v := 0) (pc' := 50) rfl (by decide) rfl ?_
      exact Rn.iret rfl (rfl) (⟨by rw [if_neg (fun z => h46 (by have := z.2 (i - fr) (by omega); rw [show fr + (i - fr) = i by omega] at this; exact this))], rfl⟩)
termination_by to - i
theorem c_T_part {d p q a N fr to : Nat} {g : Nat → Nat} (hd : 5 ≤ d) (hp : F 1 4 = nI p) (hq : F 1 5 = nI q) (h2 : p ≤ q ∧ q ≤ 400) (hf : fr ≤ to) (hN : to ≤ N ∧ N ≤ 100) (hS : Str (CC m0 F I L R H) a N g) : Cl d j_Tape_isPart [.ref 1, .ref a, .int (nI fr), .int (nI to)] (CC m0 F I L R H) (Pi (if pWd (I 2) g p q fr to then 1 else 0) (CC m0 F I L R H)) := by
  show Rn d j_Tape_isPart 0 _ _ _ _
  have e : F 1 5 - F 1 4 = nI (q - p) := by rw [hp, hq, nI_sub h2.1 (by omega)]
  have e2 : nI to - nI fr = nI (to - fr) := nI_sub hf (by omega)
  refine Rn.step (pc' := 1) rfl rfl ?_
  refine Rn.step (pc' := 2) rfl rfl ?_
  refine Rn.isub (pc' := 3) rfl rfl ?_
  refine Rn.step (pc' := 4) rfl rfl ?_
  refine Rn.getf (pc' := 7) rfl rfl rfl rfl rfl ?_
  refine Rn.step (pc' := 8) rfl rfl ?_
  refine Rn.getf (pc' := 11) rfl rfl rfl rfl rfl ?_
  refine Rn.isub (pc' := 12) rfl rfl ?_
  rw [e, e2]
  refine Rn.icmp_eq (pc1 := 17) (pc2 := 15) rfl rfl rfl (fun h12 => ?_) (fun h12 => ?_)
  · refine Rn.step (pc' := 18) rfl rfl ?_
    refine Rn.step (pc' := 20) rfl rfl ?_
    exact l_T_part hd hp ((nI_eq (a := to - fr) (b := q - p) (by omega) (by omega)).mp h12).symm h2 hf hN hS fr (Nat.le_refl _) hf (fun k hk => absurd hk (by omega))
  · refine Rn.iconst (v := 0) (pc' := 16) rfl (by decide) rfl ?_
    exact Rn.iret rfl (rfl) (⟨by rw [if_neg (fun z => h12 (by rw [z.1]))], rfl⟩)
theorem l_T_word {d p q a N : Nat} {g : Nat → Nat} (hd : 6 ≤ d) (hp : F 1 4 = nI p) (hq : F 1 5 = nI q) (h2 : p ≤ q ∧ q ≤ 400) (hN : N ≤ 100) (hS : Str (CC m0 F I L R H) a N g) (i fr k : Nat) (hfi : fr ≤ i) (hi : i ≤ N + 1) : Rn d j_Tape_wordIn 17 [.ref 1, .ref a, .int (nI k), .int (nI fr), .int (nI i)] [] (CC m0 F I L R H) (Pi (wiL (I 2) g N p q (N + 1 - i) i fr k) (CC m0 F I L R H)) := by
  refine Rn.step (pc' := 19) rfl rfl ?_
  refine Rn.step (pc' := 20) rfl rfl ?_
  refine Rn.vi (pc' := 23) rfl (by decide) (by omega) rfl (by obtain ⟨b, f, ha, _⟩ := hS; exact rcvA ha rfl) rfl (c_S_len (by omega) hS) ?_
  refine Rn.icmp_gt (pc1 := 73) (pc2 := 26) rfl rfl rfl (fun h23 => ?_) (fun h23 => ?_)
  · have hiN : N < i := (nI_ltI (a := N) (b := i) (by omega) (by omega)).mp h23
    refine Rn.iconst (v := (-1)) (pc' := 74) rfl (by decide) rfl ?_
    exact Rn.iret rfl (rfl) (⟨by rw [show N + 1 - i = 0 by omega]; rfl, rfl⟩)
  · have hiN : i ≤ N := by
      have := mt (nI_ltI (a := N) (b := i) (by omega) (by omega)).mpr h23
      omega
    refine Rn.step (pc' := 28) rfl rfl ?_
    refine Rn.step (pc' := 29) rfl rfl ?_
    refine Rn.vi (pc' := 32) rfl (by decide) (by omega) rfl (by obtain ⟨b, f, ha, _⟩ := hS; exact rcvA ha rfl) rfl (c_S_len (by omega) hS) ?_
    refine Rn.icmp_eq (pc1 := 46) (pc2 := 35) rfl rfl rfl (fun h32 => ?_) (fun h32 => ?_)
    · refine Rn.step (pc' := 47) rfl rfl ?_
      refine Rn.step (pc' := 48) rfl rfl ?_
      refine Rn.step (pc' := 49) rfl rfl ?_
      refine Rn.step (pc' := 51) rfl rfl ?_
      refine Rn.vi (pc' := 54) rfl (by decide) (by omega) rfl rfl rfl (c_T_part (by omega) hp hq h2 (by omega) (by omega) hS) ?_
      refine Rn.ifp_eq (pc1 := 59) (pc2 := 57) rfl rfl rfl (fun h54 => ?_) (fun h54 => ?_)
      · refine Rn.step (pc' := 62) rfl rfl ?_
        refine Rn.step (pc' := 64) rfl rfl ?_
        refine Rn.iconst (v := 1) (pc' := 65) rfl (by decide) rfl ?_
        refine Rn.iadd (pc' := 66) rfl rfl ?_
        refine Rn.step (pc' := 67) rfl rfl ?_
        refine Rn.step (pc' := 70) rfl rfl ?_
        refine Rn.step (pc' := 17) rfl rfl ?_
        rw [show N + 1 - i = N + 1 - (i + 1) + 1 by omega]
        simp only [wiL, if_pos (show i = N ∨ g i = 32 from Or.inl ((nI_eq (by omega) (by omega)).mp h32)), if_neg h54]
        exact Rn.ls5 rfl rfl (congrArg Value.int (nI_i1 k)) (congrArg Value.int (by simp only [nI_lit, nI_add])) (congrArg Value.int (nI_i1 i)) (l_T_word hd hp hq h2 hN hS (i + 1) (i + 1) (k + 1) (by omega) (by omega))
      · refine Rn.step (pc' := 58) rfl rfl ?_
        exact Rn.iret rfl (rfl) (⟨by rw [show N + 1 - i = N - i + 1 by omega]; simp only [wiL, if_pos (show i = N ∨ g i = 32 from Or.inl ((nI_eq (by omega) (by omega)).mp h32)), if_pos h54], rfl⟩)
    · have hiN2 : i < N := by
        have : ¬ i = N := fun z => h32 (congrArg nI z)
        omega
      have hg : g i < 128 := by
        obtain ⟨b, f, _, _, _, hf⟩ := hS
        exact (hf i hiN2).2
      refine Rn.step (pc' := 36) rfl rfl ?_
      refine Rn.step (pc' := 38) rfl rfl ?_
      refine Rn.vi (pc' := 41) rfl (by decide) (by omega) rfl (by obtain ⟨b, f, ha, _⟩ := hS; exact rcvA ha rfl) rfl (c_S_at (by omega) (by omega) hS) ?_
      refine Rn.iconst (v := 32) (pc' := 43) rfl (by decide) rfl ?_
      refine Rn.icmp_ne (pc1 := 67) (pc2 := 46) rfl rfl rfl (fun h43 => ?_) (fun h43 => ?_)
      · refine Rn.step (pc' := 70) rfl rfl ?_
        refine Rn.step (pc' := 17) rfl rfl ?_
        rw [show N + 1 - i = N + 1 - (i + 1) + 1 by omega]
        simp only [wiL, if_neg (show ¬ (i = N ∨ g i = 32) from fun z => z.elim (fun z => by omega) (fun z => h43 (congrArg nI z)))]
        exact Rn.ls5 rfl rfl rfl rfl (congrArg Value.int (nI_i1 i)) (l_T_word hd hp hq h2 hN hS (i + 1) fr k (by omega) (by omega))
      · refine Rn.step (pc' := 47) rfl rfl ?_
        refine Rn.step (pc' := 48) rfl rfl ?_
        refine Rn.step (pc' := 49) rfl rfl ?_
        refine Rn.step (pc' := 51) rfl rfl ?_
        refine Rn.vi (pc' := 54) rfl (by decide) (by omega) rfl rfl rfl (c_T_part (by omega) hp hq h2 (by omega) (by omega) hS) ?_
        refine Rn.ifp_eq (pc1 := 59) (pc2 := 57) rfl rfl rfl (fun h54 => ?_) (fun h54 => ?_)
        · refine Rn.step (pc' := 62) rfl rfl ?_
          refine Rn.step (pc' := 64) rfl rfl ?_
          refine Rn.iconst (v := 1) (pc' := 65) rfl (by decide) rfl ?_
          refine Rn.iadd (pc' := 66) rfl rfl ?_
          refine Rn.step (pc' := 67) rfl rfl ?_
          refine Rn.step (pc' := 70) rfl rfl ?_
          refine Rn.step (pc' := 17) rfl rfl ?_
          rw [show N + 1 - i = N + 1 - (i + 1) + 1 by omega]
          simp only [wiL, if_pos (show i = N ∨ g i = 32 from Or.inr ((nI_eq (a := g i) (b := 32) (by omega) (by omega)).mp h43)), if_neg h54]
          exact Rn.ls5 rfl rfl (congrArg Value.int (nI_i1 k)) (congrArg Value.int (by simp only [nI_lit, nI_add])) (congrArg Value.int (nI_i1 i)) (l_T_word hd hp hq h2 hN hS (i + 1) (i + 1) (k + 1) (by omega) (by omega))
        · refine Rn.step (pc' := 58) rfl rfl ?_
          exact Rn.iret rfl (rfl) (⟨by rw [show N + 1 - i = N - i + 1 by omega]; simp only [wiL, if_pos (show i = N ∨ g i = 32 from Or.inr ((nI_eq (a := g i) (b := 32) (by omega) (by omega)).mp h43)), if_pos h54], rfl⟩)
termination_by N + 1 - i
theorem c_T_word {d p q a N : Nat} {g : Nat → Nat} (hd : 6 ≤ d) (hp : F 1 4 = nI p) (hq : F 1 5 = nI q) (h2 : p ≤ q ∧ q ≤ 400) (hN : N ≤ 100) (hS : Str (CC m0 F I L R H) a N g) : Cl d j_Tape_wordIn [.ref 1, .ref a] (CC m0 F I L R H) (Pi (if F 1 3 = 1 then wiL (I 2) g N p q (N + 1) 0 0 0 else -1) (CC m0 F I L R H)) := by
  show Rn d j_Tape_wordIn 0 _ _ _ _
  refine Rn.step (pc' := 1) rfl rfl ?_
  refine Rn.getf (pc' := 4) rfl rfl rfl rfl rfl ?_
  refine Rn.iconst (v := 1) (pc' := 5) rfl (by decide) rfl ?_
  refine Rn.icmp_eq (pc1 := 10) (pc2 := 8) rfl rfl rfl (fun h5 => ?_) (fun h5 => ?_)
  · refine Rn.iconst (v := 0) (pc' := 11) rfl (by decide) rfl ?_
    refine Rn.step (pc' := 12) rfl rfl ?_
    refine Rn.iconst (v := 0) (pc' := 13) rfl (by decide) rfl ?_
    refine Rn.step (pc' := 14) rfl rfl ?_
    refine Rn.iconst (v := 0) (pc' := 15) rfl (by decide) rfl ?_
    refine Rn.step (pc' := 17) rfl rfl ?_
    rw [if_pos h5]
    exact l_T_word hd hp hq h2 hN hS 0 0 0 (by omega) (by omega)
  · refine Rn.iconst (v := (-1)) (pc' := 9) rfl (by decide) rfl ?_
    exact Rn.iret rfl (rfl) (⟨by rw [if_neg h5], rfl⟩)
end CV
