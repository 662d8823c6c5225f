/-! THE CLASS: whose feet. -/
section CJ
variable {m0 : xM} {F I : Nat → Nat → Int32} {L : Nat → Nat → Int64} {R : Nat → Nat → Option Nat} {H : Value} {s w : Nat → Int32} {o : Nat} {gg : Prop}
def filN (f : Nat → Int32) (x : Int32) (k : Nat) : Nat → Int32 := fun i => if i < k then x else f i
theorem filN_s (f : Nat → Int32) (x : Int32) (k : Nat) : upd (filN f x k) k x = filN f x (k + 1) := by
  funext i
  unfold upd filN
  by_cases h : i = k
  · rw [if_pos h, if_pos (by omega)]
  · rw [if_neg h]
    by_cases h2 : i < k
    · rw [if_pos h2, if_pos (by omega)]
    · rw [if_neg h2, if_neg (by omega)]
theorem filN_0 (f : Nat → Int32) (x : Int32) : filN f x 0 = f := by
  funext i
  exact if_neg (Nat.not_lt_zero i)
theorem filN_i {f : Nat → Int32} {x : Int32} {k i : Nat} (h : i < k) : filN f x k i = x := if_pos h
theorem l_fill {d a n : Nat} {x : Int32} {f : Nat → Int32} (ha : cInt a = some (0, n)) (hn : n < 2147483648) (k : Nat) (hk : k ≤ n) : Rn d j_Arrays_fill 5 [.ref a, .int x, .int (nI k), .int (nI n)] [] (CC m0 F (va_up I a (filN f x k)) L R H) (Pv (CC m0 F (va_up I a (filN f x n)) L R H)) := by
  refine Rn.step (pc' := 6) rfl rfl ?_
  refine Rn.step (pc' := 7) rfl rfl ?_
  refine Rn.icmp_ge (pc1 := 20) (pc2 := 10) rfl rfl rfl (fun h7 => ?_) (fun h7 => ?_)
  · obtain rfl := nI_up (by omega) hk h7
    exact Rn.vret rfl (⟨rfl, rfl⟩)
  · have hk2 := nI_dn (by omega) hk h7
    refine Rn.step (pc' := 11) rfl rfl ?_
    refine Rn.step (pc' := 12) rfl rfl ?_
    refine Rn.step (pc' := 13) rfl rfl ?_
    refine Rn.cast (k := k) (pc' := 14) rfl ha rfl (by omega) hn rfl ?_
    refine Rn.step (pc' := 17) rfl rfl ?_
    refine Rn.step (pc' := 5) rfl rfl ?_
    rw [va_up_self, up_up, filN_s]
    exact Rn.ls4 rfl rfl (congrArg Value.int (nI_i1 k)) rfl (l_fill ha hn (k + 1) (by omega))
termination_by n - k
theorem c_fill {d a n : Nat} (x : Int32) (ha : cInt a = some (0, n)) (hn : n < 2147483648) : Cl d j_Arrays_fill [.ref a, .int x] (CC m0 F I L R H) (Pv (CC m0 F (va_up I a (filN (I a) x n)) L R H)) := by
  refine Rn.mm (m2 := CC m0 F (va_up I a (filN (I a) x 0)) L R H) (by rw [filN_0, up_id]) ?_
  show Rn d j_Arrays_fill 0 _ _ _ _
  refine Rn.iconst (v := 0) (pc' := 1) rfl (by decide) rfl ?_
  refine Rn.step (pc' := 2) rfl rfl ?_
  refine Rn.step (pc' := 3) rfl rfl ?_
  refine Rn.alen (pc' := 4) rfl (CC_I ha) (show (0 : Nat) < 7 by decide) rfl ?_
  refine Rn.step (pc' := 5) rfl rfl ?_
  exact l_fill ha hn 0 (by omega)
/-- a world as it begins -/
def bgW (h : Nat → Int32) (Bn : Nat) (bo : Int32) (f : Nat → Int32) : Nat → Int32 := upd (upd (upd (upd (va_cpy h (filN f 0 33) 0 0 Bn) 24 (-1)) 26 bo) 25 (-1)) 27 bo
theorem bgW_p (h : Nat → Int32) {Bn : Nat} (bo : Int32) (f : Nat → Int32) {b : Nat} (hb : b < Bn) (hB : Bn ≤ 6) : bgW h Bn bo f b = h b := by
  unfold bgW
  rw [upd_n _ _ (by omega), upd_n _ _ (by omega), upd_n _ _ (by omega), upd_n _ _ (by omega), pk_cpy_in (by omega) (by omega), Nat.zero_add]
  rfl
theorem bgW_0 (h : Nat → Int32) {Bn : Nat} (bo : Int32) (f : Nat → Int32) {i : Nat} (hB : Bn ≤ i) (hi : i < 24 ∨ (27 < i ∧ i < 33)) : bgW h Bn bo f i = 0 := by
  unfold bgW
  rw [upd_n _ _ (by omega), upd_n _ _ (by omega), upd_n _ _ (by omega), upd_n _ _ (by omega), pk_cpy_out (by omega), filN_i (by omega)]
theorem c_W_begin {d Bn : Nat} (hd : 1 ≤ d) (ho : isW o) (hB0 : F 17 10 = nI Bn) (hB : Bn ≤ 6) : Cl d j_World_begin [.ref o, .ref 17] (CWm m0 F I L R H o w) (Pv (CWm m0 F I L R H o (bgW (I 19) Bn (F 17 9) w))) := by
  show Rn d j_World_begin 0 _ _ _ _
  refine Rn.step (pc' := 1) rfl rfl ?_
  refine Rn.cgw (pc' := 4) rfl ho rfl ?_
  refine Rn.iconst (v := 0) (pc' := 5) rfl (by decide) rfl ?_
  refine Rn.sv (pc' := 8) rfl (by decide) (by omega) rfl rfl (c_fill 0 (isW_i ho) (by decide)) ?_
  rw [va_up_self, up_up]
  refine Rn.step (pc' := 9) rfl rfl ?_
  refine Rn.getf (pc' := 12) rfl rfl rfl rfl rfl ?_
  refine Rn.iconst (v := 0) (pc' := 13) rfl (by decide) rfl ?_
  refine Rn.step (pc' := 14) rfl rfl ?_
  refine Rn.cgw (pc' := 17) rfl ho rfl ?_
  refine Rn.iconst (v := 0) (pc' := 18) rfl (by decide) rfl ?_
  refine Rn.step (pc' := 19) rfl rfl ?_
  refine Rn.getf (pc' := 22) rfl rfl rfl rfl rfl ?_
  rw [hB0]
  refine Rn.ccopy (a0 := 19) (a := o + 1) (sp := 0) (dp := 0) (n := Bn) (pc' := 25) rfl (by omega) rfl (isW_i ho) rfl rfl rfl (by omega) (Nat.zero_le 8) rfl ?_
  rw [up_ne I _ (isW_ne ho).2.1, va_up_self, up_up]
  refine Rn.iconst (v := 0) (pc' := 26) rfl (by decide) rfl ?_
  refine Rn.step (pc' := 27) rfl rfl ?_
  refine Rn.step (pc' := 28) rfl rfl ?_
  refine Rn.iconst (v := 2) (pc' := 29) rfl (by decide) rfl ?_
  refine Rn.icmp_ge (pc1 := 61) (pc2 := 32) rfl rfl rfl (fun h29 => absurd h29 (show ¬ (2 : Int32) ≤ 0 from by decide)) (fun h29 => ?_)
  refine Rn.step (pc' := 33) rfl rfl ?_
  refine Rn.cgw (pc' := 36) rfl ho rfl ?_
  refine Rn.iconst (v := 24) (pc' := 38) rfl (by decide) rfl ?_
  refine Rn.step (pc' := 39) rfl rfl ?_
  refine Rn.iadd (pc' := 40) rfl rfl ?_
  refine Rn.iconst (v := (-1)) (pc' := 41) rfl (by decide) rfl ?_
  refine Rn.cwst (k := 24) (pc' := 42) rfl ho (by decide) (by omega) (by decide) rfl ?_
  refine Rn.step (pc' := 43) rfl rfl ?_
  refine Rn.cgw (pc' := 46) rfl ho rfl ?_
  refine Rn.iconst (v := 26) (pc' := 48) rfl (by decide) rfl ?_
  refine Rn.step (pc' := 49) rfl rfl ?_
  refine Rn.iadd (pc' := 50) rfl rfl ?_
  refine Rn.step (pc' := 51) rfl rfl ?_
  refine Rn.getf (pc' := 54) rfl rfl rfl rfl rfl ?_
  refine Rn.cwst (k := 26) (pc' := 55) rfl ho (by decide) (by omega) (by decide) rfl ?_
  refine Rn.step (pc' := 58) rfl rfl ?_
  refine Rn.step (pc' := 27) rfl rfl ?_
  refine Rn.ls3 (b2 := .int 1) rfl rfl (congrArg Value.int (by decide)) ?_
  refine Rn.step (pc' := 28) rfl rfl ?_
  refine Rn.iconst (v := 2) (pc' := 29) rfl (by decide) rfl ?_
  refine Rn.icmp_ge (pc1 := 61) (pc2 := 32) rfl rfl rfl (fun h29 => absurd h29 (show ¬ (2 : Int32) ≤ 1 from by decide)) (fun h29 => ?_)
  refine Rn.step (pc' := 33) rfl rfl ?_
  refine Rn.cgw (pc' := 36) rfl ho rfl ?_
  refine Rn.iconst (v := 24) (pc' := 38) rfl (by decide) rfl ?_
  refine Rn.step (pc' := 39) rfl rfl ?_
  refine Rn.iadd (pc' := 40) rfl rfl ?_
  refine Rn.iconst (v := (-1)) (pc' := 41) rfl (by decide) rfl ?_
  refine Rn.cwst (k := 25) (pc' := 42) rfl ho (by decide) (by omega) (by decide) rfl ?_
  refine Rn.step (pc' := 43) rfl rfl ?_
  refine Rn.cgw (pc' := 46) rfl ho rfl ?_
  refine Rn.iconst (v := 26) (pc' := 48) rfl (by decide) rfl ?_
  refine Rn.step (pc' := 49) rfl rfl ?_
  refine Rn.iadd (pc' := 50) rfl rfl ?_
  refine Rn.step (pc' := 51) rfl rfl ?_
  refine Rn.getf (pc' := 54) rfl rfl rfl rfl rfl ?_
  refine Rn.cwst (k := 27) (pc' := 55) rfl ho (by decide) (by omega) (by decide) rfl ?_
  refine Rn.step (pc' := 58) rfl rfl ?_
  refine Rn.step (pc' := 27) rfl rfl ?_
  refine Rn.ls3 (b2 := .int 2) rfl rfl (congrArg Value.int (by decide)) ?_
  refine Rn.step (pc' := 28) rfl rfl ?_
  refine Rn.iconst (v := 2) (pc' := 29) rfl (by decide) rfl ?_
  refine Rn.icmp_ge (pc1 := 61) (pc2 := 32) rfl rfl rfl (fun h29 => ?_) (fun h29 => absurd (show (2 : Int32) ≤ 2 from by decide) h29)
  exact Rn.vret rfl (⟨rfl, rfl⟩)
theorem WR.bg {P Bn Fn Wn : Nat} {s : Nat → Int32} {F I : Nat → Nat → Int32} (hl : LR P Bn Fn Wn s F I) (h : WL P Bn Fn Wn s) {b : Int32} (hb : b = -1 ∨ ¬ b < 0) (f : Nat → Int32) : WR False Bn (bgS s Bn b) (drs (bgW (I 19) Bn (F 17 9) f) b) := by
  have hb6 := h.b6
  obtain ⟨h5, hp⟩ := bgH_pl h Bn (Nat.le_refl _)
  have e : ∀ i, (i < 46 ∨ 51 < i) → bgS s Bn b i = bgH s Bn i := fun i hi => by
    unfold bgS
    rw [lnd_n _ _ (by omega), upd_n _ _ (by omega), upd_n _ _ (by omega)]
  have eb : ∀ i, i < 24 ∨ 27 < i → drs (bgW (I 19) Bn (F 17 9) f) b i = bgW (I 19) Bn (F 17 9) f i := fun i hi => drs_n _ _ hi
  refine ⟨fun c hc => ?_, fun c hc => ?_, fun c hc => ?_, fun c hc => ?_, fun c hc => ?_, fun c hc hl2 => ?_, fun c hc => ?_, ?_, ?_, fun hg => hg.elim, fun c h1 h2 => ?_⟩
  · rw [eb _ (by omega), e _ (by omega), bgW_p _ _ _ hc hb6, hl.hm c hc, (hp c hc).1]
  · rw [eb _ (by omega), e _ (by omega), bgW_0 _ _ _ (by omega) (by omega), (hp c hc).2.1]
  · rw [eb _ (by omega), e _ (by omega), bgW_0 _ _ _ (by omega) (by omega), (hp c hc).2.2.1]
  · rw [eb _ (by omega), e _ (by omega), bgW_0 _ _ _ (by omega) (by omega), (hp c hc).2.2.2]
  · rw [drs_w _ _ hc]
    unfold bgS
    rw [lnd_w _ hb hc]
  · unfold bgS at hl2 ⊢
    rw [lnd_w _ hb hc] at hl2
    rcases hb with rfl | hb
    · rw [drs_l _ _ hc, lnd_l _ hc]
    · exact absurd hl2 hb
  · rw [eb _ (by omega), bgW_0 _ _ _ (by omega) (by omega)]
    unfold bgS
    rw [lnd_n _ _ (by omega)]
    have : c = 0 ∨ c = 1 := by omega
    rcases this with rfl | rfl
    · rw [upd_n _ _ (by omega), upd_s]
    · rw [upd_s]
  · rw [eb _ (by omega), e _ (by omega), bgW_0 _ _ _ (by omega) (by omega), h5]
  · rw [eb _ (by omega), e _ (by omega), bgW_0 _ _ _ (by omega) (by omega), bgH_6 s Bn hb6]
  · rw [eb _ (by omega), eb _ (by omega), bgW_0 _ _ _ (by omega) (by omega), bgW_0 _ _ _ (by omega) (by omega)]
    exact ⟨rfl, rfl⟩
/-- the prints -/
abbrev PR (K : Nat) (s f r : Nat → Int32) : Prop := (s 150 = nI K) ∧ (K ≤ 10) ∧ (f 1 = s 150) ∧ (∀ i, i < 4 * K → r i = s (110 + i)) ∧ (∀ k, k < K → ∃ h, h < 48 ∧ s (110 + 4 * k) = nI h) ∧ (∀ k, k < K → s (110 + 4 * k + 3) = 0 ∨ s (110 + 4 * k + 3) = 1)
theorem PR.k {K : Nat} {s f r : Nat → Int32} (h : PR K s f r) : s 150 = nI K := h.1
theorem PR.n {K : Nat} {s f r : Nat → Int32} (h : PR K s f r) : K ≤ 10 := h.2.1
theorem PR.f {K : Nat} {s f r : Nat → Int32} (h : PR K s f r) : f 1 = s 150 := h.2.2.1
theorem PR.r {K : Nat} {s f r : Nat → Int32} (h : PR K s f r) : ∀ i, i < 4 * K → r i = s (110 + i) := h.2.2.2.1
theorem PR.h {K : Nat} {s f r : Nat → Int32} (h : PR K s f r) : ∀ k, k < K → ∃ h, h < 48 ∧ s (110 + 4 * k) = nI h := h.2.2.2.2.1
theorem PR.z {K : Nat} {s f r : Nat → Int32} (h : PR K s f r) : ∀ k, k < K → s (110 + 4 * k + 3) = 0 ∨ s (110 + 4 * k + 3) = 1 := h.2.2.2.2.2
theorem PR.fx {K : Nat} {s t f r : Nat → Int32} (h : PR K s f r) (g : FX s t) : PR K t f r := by
  have e : ∀ i, 110 ≤ i → t i = s i := fun i hi => g i (by unfold fxc; omega)
  exact ⟨(e _ (by omega)).trans h.k, h.n, h.f.trans (e _ (by omega)).symm, fun i hi => (h.r i hi).trans (e _ (by omega)).symm, fun k hk => by rw [e _ (by omega)]; exact h.h k hk, fun k hk => by rw [e _ (by omega)]; exact h.z k hk⟩
/-- the last hour of the first k prints -/
def lsH (s : Nat → Int32) : Nat → Int32
  | 0 => 0
  | k + 1 => mx (lsH s k) (s (110 + 4 * k))
theorem lsH_in {s : Nat → Int32} {K : Nat} (h : ∀ k, k < K → ∃ h, h < 48 ∧ s (110 + 4 * k) = nI h) : ∀ k, k ≤ K → ∃ l, l < 48 ∧ lsH s k = nI l ∧ ∀ j, j < k → ∃ h, h ≤ l ∧ s (110 + 4 * j) = nI h
  | 0, _ => ⟨0, by omega, rfl, fun j hj => absurd hj (by omega)⟩
  | k + 1, hk => by
    obtain ⟨l, h1, h2, h3⟩ := lsH_in h k (by omega)
    obtain ⟨u, h4, h5⟩ := h k (by omega)
    rw [lsH, h2, h5]
    unfold mx
    by_cases e : l < u
    · rw [if_pos ((nI_ltI (by omega) (by omega)).mpr e)]
      refine ⟨u, h4, rfl, fun j hj => ?_⟩
      by_cases ej : j = k
      · subst ej
        exact ⟨u, Nat.le_refl _, h5⟩
      · obtain ⟨a, b, c⟩ := h3 j (by omega)
        exact ⟨a, by omega, c⟩
    · rw [if_neg (fun z => e ((nI_ltI (by omega) (by omega)).mp z))]
      refine ⟨l, h1, rfl, fun j hj => ?_⟩
      by_cases ej : j = k
      · subst ej
        exact ⟨u, by omega, h5⟩
      · exact h3 j (by omega)
theorem l_P_last {d K : Nat} (hp : PR K s (F 12) (I 13)) (hd : 1 ≤ d) (k : Nat) (hk : k ≤ K) : Rn d j_Prints_lastHour 4 [.ref 12, .int (lsH s k), .int (nI k)] [] (CC m0 F I L R H) (Pi (lsH s K) (CC m0 F I L R H)) := by
  refine Rn.step (pc' := 5) rfl rfl ?_
  refine Rn.step (pc' := 6) rfl rfl ?_
  refine Rn.getf (pc' := 9) rfl rfl rfl rfl rfl ?_
  refine Rn.icmp_ge (pc1 := 31) (pc2 := 12) rfl rfl rfl (fun h9 => ?_) (fun h9 => ?_)
  · obtain rfl := nI_up (by have := hp.n; omega) hk (by rw [hp.f, hp.k] at h9; exact h9)
    refine Rn.step (pc' := 32) rfl rfl ?_
    exact Rn.iret rfl (rfl) (⟨rfl, rfl⟩)
  · have hk2 := nI_dn (by have := hp.n; omega) hk (by rw [hp.f, hp.k] at h9; exact h9)
    have h10 := hp.n
    refine Rn.step (pc' := 13) rfl rfl ?_
    refine Rn.step (pc' := 14) rfl rfl ?_
    refine Rn.getf (pc' := 17) rfl rfl rfl rfl rfl ?_
    refine Rn.iconst (v := 4) (pc' := 18) rfl (by decide) rfl ?_
    refine Rn.step (pc' := 19) rfl rfl ?_
    refine Rn.imul (pc' := 20) rfl rfl ?_
    refine Rn.cald (k := 4 * k) (pc' := 21) rfl rfl (by simp only [nI_lit, nI_add, pk_mul, Nat.zero_add]) (by omega) (hp.r (4 * k) (by omega)) (by decide) rfl ?_
    refine Rn.si (pc' := 24) rfl (by decide) (by omega) rfl rfl (c_max _ _) ?_
    refine Rn.step (pc' := 25) rfl rfl ?_
    refine Rn.step (pc' := 28) rfl rfl ?_
    refine Rn.step (pc' := 4) rfl rfl ?_
    exact Rn.ls3 rfl rfl (congrArg Value.int (nI_i1 k)) (l_P_last hp hd (k + 1) (by omega))
termination_by K - k
theorem c_P_last {d K : Nat} (hp : PR K s (F 12) (I 13)) (hd : 1 ≤ d) : Cl d j_Prints_lastHour [.ref 12] (CC m0 F I L R H) (Pi (lsH s K) (CC m0 F I L R H)) := by
  show Rn d j_Prints_lastHour 0 _ _ _ _
  refine Rn.iconst (v := 0) (pc' := 1) rfl (by decide) rfl ?_
  refine Rn.step (pc' := 2) rfl rfl ?_
  refine Rn.iconst (v := 0) (pc' := 3) rfl (by decide) rfl ?_
  refine Rn.step (pc' := 4) rfl rfl ?_
  exact l_P_last hp hd 0 (by omega)
theorem bc_M {s : Nat → Int32} {b : Nat} (hb : b < 6) : bcF (mB1 s (nI b)) = mBM s (-1) (nI b) := by
  rw [bc_b1]
  unfold mBM
  have h : ¬ nI b = -1 := fun z => absurd (show nI b < 0 by rw [z]; exact neg1) (nI_pos (by omega))
  rw [if_neg h]
theorem l_P_ag1 {d K Bn i : Nat} {n : Int32} {Q : Option Value → xM → Prop} (hp : PR K s (F 12) (I 13)) (hr : WR gg Bn s w) (hB : Bn ≤ 6) (hi : i < K) (hd : 1 ≤ d) (k : Nat) (hk : k ≤ Bn) (x7 : Value) (hkk : ∀ x7, Rn d j_Prints_agree 107 [.ref 12, .ref 25, .int (nI Bn), .int n, .int (nI i), .int (b01 (mWA s (-1) (s (110 + 4 * i + 1)) (s (110 + 4 * i + 2)) Bn)), .int (nI Bn), x7] [] (CWm m0 F I L R H 25 w) Q) : Rn d j_Prints_agree 34 [.ref 12, .ref 25, .int (nI Bn), .int n, .int (nI i), .int (b01 (mWA s (-1) (s (110 + 4 * i + 1)) (s (110 + 4 * i + 2)) k)), .int (nI k), x7] [] (CWm m0 F I L R H 25 w) Q := by
  have ho : isW 25 := by unfold isW; omega
  have h10 := hp.n
  refine Rn.step (pc' := 36) rfl rfl ?_
  refine Rn.step (pc' := 37) rfl rfl ?_
  refine Rn.icmp_ge (pc1 := 107) (pc2 := 40) rfl rfl rfl (fun h37 => ?_) (fun h37 => ?_)
  · obtain rfl := nI_up (by omega) hk h37
    exact hkk _
  · have hk2 := nI_dn (by omega) hk h37
    refine Rn.step (pc' := 41) rfl rfl ?_
    refine Rn.cgw (pc' := 44) rfl ho rfl ?_
    refine Rn.iconst (v := 0) (pc' := 45) rfl (by decide) rfl ?_
    refine Rn.step (pc' := 47) rfl rfl ?_
    refine Rn.iadd (pc' := 48) rfl rfl ?_
    refine Rn.cwld (k := k) (pc' := 49) rfl ho (by simp only [nI_lit, nI_add, pk_mul, Nat.zero_add]) (by omega) (hr.pl k hk2) (by decide) rfl ?_
    refine Rn.step (pc' := 50) rfl rfl ?_
    refine Rn.getf (pc' := 53) rfl rfl rfl rfl rfl ?_
    refine Rn.iconst (v := 4) (pc' := 54) rfl (by decide) rfl ?_
    refine Rn.step (pc' := 56) rfl rfl ?_
    refine Rn.imul (pc' := 57) rfl rfl ?_
    refine Rn.iconst (v := 1) (pc' := 58) rfl (by decide) rfl ?_
    refine Rn.iadd (pc' := 59) rfl rfl ?_
    refine Rn.cald (k := 4 * i + 1) (pc' := 60) rfl rfl (by simp only [nI_lit, nI_add, pk_mul, Nat.zero_add]) (by omega) ((congrFun (up_ne I w (show 13 ≠ 25 + 1 by decide)) _).trans (hp.r (4 * i + 1) (by omega))) (by decide) rfl ?_
    refine Rn.icmp_ne (pc1 := 67) (pc2 := 63) rfl rfl rfl (fun h60 => ?_) (fun h60 => ?_)
    · refine Rn.iconst (v := 0) (pc' := 68) rfl (by decide) rfl ?_
      refine Rn.step (pc' := 70) rfl rfl ?_
      refine Rn.step (pc' := 72) rfl rfl ?_
      refine Rn.ifc_eq (pc1 := 101) (pc2 := 75) rfl rfl rfl (fun h72 => ?_) (fun h72 => absurd (rfl) h72)
      refine Rn.step (pc' := 104) rfl rfl ?_
      refine Rn.step (pc' := 34) rfl rfl ?_
      have e : mWA s (-1) (s (110 + 4 * i + 1)) (s (110 + 4 * i + 2)) (k + 1) = mWA s (-1) (s (110 + 4 * i + 1)) (s (110 + 4 * i + 2)) k := by rw [mWA, decide_eq_false (fun z => h60 z.1), Bool.or_false]
      exact Rn.ls8 rfl rfl rfl rfl rfl (congrArg Value.int (by rw [e])) (congrArg Value.int (nI_i1 k)) rfl (l_P_ag1 hp hr hB hi hd (k + 1) (by omega) _ hkk)
    · refine Rn.iconst (v := 1) (pc' := 64) rfl (by decide) rfl ?_
      refine Rn.step (pc' := 68) rfl rfl ?_
      refine Rn.step (pc' := 70) rfl rfl ?_
      refine Rn.step (pc' := 72) rfl rfl ?_
      refine Rn.ifc_eq (pc1 := 101) (pc2 := 75) rfl rfl rfl (fun h72 => absurd h72 (by decide)) (fun h72 => ?_)
      refine Rn.step (pc' := 76) rfl rfl ?_
      refine Rn.step (pc' := 78) rfl rfl ?_
      refine Rn.vi (pc' := 81) rfl (by decide) (by omega) rfl (rcvW ho rfl) rfl (c_W_bootBitsOf (o := 25) (by unfold isW; omega) hr (nI k)) ?_
      refine Rn.si (pc' := 84) rfl (by decide) (by omega) rfl rfl (c_bitCount _) ?_
      refine Rn.step (pc' := 85) rfl rfl ?_
      refine Rn.getf (pc' := 88) rfl rfl rfl rfl rfl ?_
      refine Rn.iconst (v := 4) (pc' := 89) rfl (by decide) rfl ?_
      refine Rn.step (pc' := 91) rfl rfl ?_
      refine Rn.imul (pc' := 92) rfl rfl ?_
      refine Rn.iconst (v := 2) (pc' := 93) rfl (by decide) rfl ?_
      refine Rn.iadd (pc' := 94) rfl rfl ?_
      refine Rn.cald (k := 4 * i + 2) (pc' := 95) rfl rfl (by simp only [nI_lit, nI_add, pk_mul, Nat.zero_add]) (by omega) ((congrFun (up_ne I w (show 13 ≠ 25 + 1 by decide)) _).trans (hp.r (4 * i + 2) (by omega))) (by decide) rfl ?_
      refine Rn.icmp_ne (pc1 := 101) (pc2 := 98) rfl rfl rfl (fun h95 => ?_) (fun h95 => ?_)
      · refine Rn.step (pc' := 104) rfl rfl ?_
        refine Rn.step (pc' := 34) rfl rfl ?_
        have e : mWA s (-1) (s (110 + 4 * i + 1)) (s (110 + 4 * i + 2)) (k + 1) = mWA s (-1) (s (110 + 4 * i + 1)) (s (110 + 4 * i + 2)) k := by rw [mWA, decide_eq_false (fun z => h95 ((bc_M (by omega)).trans z.2)), Bool.or_false]
        exact Rn.ls8 rfl rfl rfl rfl rfl (congrArg Value.int (by rw [e])) (congrArg Value.int (nI_i1 k)) rfl (l_P_ag1 hp hr hB hi hd (k + 1) (by omega) _ hkk)
      · refine Rn.iconst (v := 1) (pc' := 99) rfl (by decide) rfl ?_
        refine Rn.step (pc' := 101) rfl rfl ?_
        refine Rn.step (pc' := 104) rfl rfl ?_
        refine Rn.step (pc' := 34) rfl rfl ?_
        have e : mWA s (-1) (s (110 + 4 * i + 1)) (s (110 + 4 * i + 2)) (k + 1) = true := by rw [mWA, decide_eq_true ⟨h60, (bc_M (by omega)).symm.trans h95⟩, Bool.or_true]
        exact Rn.ls8 rfl rfl rfl rfl rfl (congrArg Value.int (by rw [e]; rfl)) (congrArg Value.int (nI_i1 k)) rfl (l_P_ag1 hp hr hB hi hd (k + 1) (by omega) _ hkk)
termination_by Bn - k
theorem l_P_ag {d K Bn : Nat} {n : Int32} (hp : PR K s (F 12) (I 13)) (hr : WR gg Bn s w) (hB : Bn ≤ 6) (hd : 1 ≤ d) (k : Nat) (hk : k ≤ K) (hf : aPS s (-1) Bn n k = true) (x5 x6 x7 : Value) : Rn d j_Prints_agree 3 [.ref 12, .ref 25, .int (nI Bn), .int n, .int (nI k), x5, x6, x7] [] (CWm m0 F I L R H 25 w) (Pi (b01 (aPS s (-1) Bn n K)) (CWm m0 F I L R H 25 w)) := by
  have h10 := hp.n
  refine Rn.step (pc' := 5) rfl rfl ?_
  refine Rn.step (pc' := 6) rfl rfl ?_
  refine Rn.getf (pc' := 9) rfl rfl rfl rfl rfl ?_
  refine Rn.icmp_ge (pc1 := 131) (pc2 := 12) rfl rfl rfl (fun h9 => ?_) (fun h9 => ?_)
  · obtain rfl := nI_up (by omega) hk (by rw [hp.f, hp.k] at h9; exact h9)
    refine Rn.iconst (v := 1) (pc' := 132) rfl (by decide) rfl ?_
    exact Rn.iret rfl (by decide) (⟨by rw [hf]; rfl, rfl⟩)
  · have hk2 := nI_dn (by omega) hk (by rw [hp.f, hp.k] at h9; exact h9)
    refine Rn.step (pc' := 13) rfl rfl ?_
    refine Rn.getf (pc' := 16) rfl rfl rfl rfl rfl ?_
    refine Rn.iconst (v := 4) (pc' := 17) rfl (by decide) rfl ?_
    refine Rn.step (pc' := 19) rfl rfl ?_
    refine Rn.imul (pc' := 20) rfl rfl ?_
    refine Rn.cald (k := 4 * k) (pc' := 21) rfl rfl (by simp only [nI_lit, nI_add, pk_mul, Nat.zero_add]) (by omega) ((congrFun (up_ne I w (show 13 ≠ 25 + 1 by decide)) _).trans (hp.r (4 * k) (by omega))) (by decide) rfl ?_
    refine Rn.step (pc' := 22) rfl rfl ?_
    refine Rn.icmp_eq (pc1 := 28) (pc2 := 25) rfl rfl rfl (fun h22 => ?_) (fun h22 => ?_)
    · refine Rn.iconst (v := 0) (pc' := 29) rfl (by decide) rfl ?_
      refine Rn.step (pc' := 31) rfl rfl ?_
      refine Rn.iconst (v := 0) (pc' := 32) rfl (by decide) rfl ?_
      refine Rn.step (pc' := 34) rfl rfl ?_
      refine l_P_ag1 hp hr hB hk2 (by omega) 0 (by omega) _ (fun y7 => ?_)
      have ez : (if s (110 + 4 * k + 3) = 1 then (1 : Int32) else 0) = s (110 + 4 * k + 3) := by
        rcases hp.z k hk2 with e | e <;> rw [e]
        · exact if_neg (by decide)
        · exact if_pos rfl
      refine Rn.step (pc' := 109) rfl rfl ?_
      refine Rn.step (pc' := 110) rfl rfl ?_
      refine Rn.getf (pc' := 113) rfl rfl rfl rfl rfl ?_
      refine Rn.iconst (v := 4) (pc' := 114) rfl (by decide) rfl ?_
      refine Rn.step (pc' := 116) rfl rfl ?_
      refine Rn.imul (pc' := 117) rfl rfl ?_
      refine Rn.iconst (v := 3) (pc' := 118) rfl (by decide) rfl ?_
      refine Rn.iadd (pc' := 119) rfl rfl ?_
      refine Rn.cald (k := 4 * k + 3) (pc' := 120) rfl rfl (by simp only [nI_lit, nI_add, pk_mul, Nat.zero_add]) (by omega) ((congrFun (up_ne I w (show 13 ≠ 25 + 1 by decide)) _).trans (hp.r (4 * k + 3) (by omega))) (by decide) rfl ?_
      refine Rn.icmp_eq (pc1 := 125) (pc2 := 123) rfl rfl rfl (fun h120 => ?_) (fun h120 => ?_)
      · refine Rn.step (pc' := 128) rfl rfl ?_
        refine Rn.step (pc' := 3) rfl rfl ?_
        exact Rn.ls8 rfl rfl rfl rfl (congrArg Value.int (nI_i1 k)) rfl rfl rfl (l_P_ag hp hr hB hd (k + 1) (by omega) (by rw [aPS, hf, decide_eq_false (fun z => z.2 (by rw [ez]; exact h120))]; rfl) _ _ _)
      · have hne : ¬ (if mWA s (-1) (s (110 + 4 * k + 1)) (s (110 + 4 * k + 2)) Bn = true then (1 : Int32) else 0) = (if s (110 + 4 * k + 3) = 1 then 1 else 0) := by
          rw [ez]
          exact h120
        refine Rn.iconst (v := 0) (pc' := 124) rfl (by decide) rfl ?_
        exact Rn.iret rfl (by decide) (⟨congrArg (fun z => some (Value.int z)) (by
            rw [aPS_mono (k := k + 1) (by rw [aPS, decide_eq_true ⟨h22, hne⟩, Bool.not_true, Bool.and_false]) K (by omega)]
            rfl : (0 : Int32) = _), rfl⟩)
    · refine Rn.step (pc' := 125) rfl rfl ?_
      refine Rn.step (pc' := 128) rfl rfl ?_
      refine Rn.step (pc' := 3) rfl rfl ?_
      exact Rn.ls8 rfl rfl rfl rfl (congrArg Value.int (nI_i1 k)) rfl rfl rfl (l_P_ag hp hr hB hd (k + 1) (by omega) (by rw [aPS, hf, decide_eq_false (fun z => h22 z.1)]; rfl) x5 x6 x7)
termination_by K - k
theorem c_P_ag {d K Bn : Nat} (n : Int32) (hp : PR K s (F 12) (I 13)) (hr : WR gg Bn s w) (hB : Bn ≤ 6) (hd : 1 ≤ d) : Cl d j_Prints_agree [.ref 12, .ref 25, .int (nI Bn), .int n] (CWm m0 F I L R H 25 w) (Pi (b01 (aPS s (-1) Bn n K)) (CWm m0 F I L R H 25 w)) := by
  show Rn d j_Prints_agree 0 _ _ _ _
  refine Rn.iconst (v := 0) (pc' := 1) rfl (by decide) rfl ?_
  refine Rn.step (pc' := 3) rfl rfl ?_
  exact l_P_ag hp hr hB hd 0 (by omega) rfl _ _ _
end CJ
