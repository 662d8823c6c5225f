/-! THE MODEL: relays. -/
section ME
variable {m0 : xM} {v : Nat → Int32} {dx : Int64} {A : Nat → Nat → Int32} {LA : Nat → Nat → Int64} {s : Nat → Int32}
/-- the model's memory, with what is known of fields and arrays -/
def MU (m0 : xM) (v : Nat → Int32) (A : Nat → Nat → Int32) (s : Nat → Int32) (Q : (Nat → Int32) → Int64 → (Nat → Nat → Int32) → Prop) (m : xM) : Prop := ∃ v' dx' A' LA', m = MS m0 v' dx' A' LA' s ∧ (∀ i, ¬ scr i → v' i = v i) ∧ (∀ k, ¬ sca k → A' k = A k) ∧ Q v' dx' A'
theorem MU.mg {Q : (Nat → Int32) → Int64 → (Nat → Nat → Int32) → Prop} {m : xM} (h : MU m0 v A s Q m) : MG m0 v A s m := by
  obtain ⟨v', dx', A', LA', e, h1, h2, -⟩ := h
  exact ⟨v', dx', A', LA', e, h1, h2⟩
theorem cpf_back2 {s t f : Nat → Int32} (h : FX s t) (hf : ∀ i, i < 52 → f i = s i) : cpf f t 52 = s := by
  funext i
  unfold cpf
  by_cases hi : i < 52
  · rw [if_pos hi]
    exact hf i hi
  · rw [if_neg hi]
    exact h i (by unfold fxc; omega)
theorem cpf_lt {s f : Nat → Int32} {n : Nat} : ∀ i, i < n → cpf s f n i = s i := fun i hi => if_pos hi
theorem l_M_power {d B N : Nat} {m : xM} (hN : N < 2 ^ 31) (k : Nat) (hk : k ≤ N) : Rn d j_M_power 4 [.int (nI B), .int (nI N), .int (nI (B ^ k)), .int (nI k)] [] m (Pi (nI (B ^ N)) m) := by
  refine Rn.step (pc' := 5) rfl rfl ?_
  refine Rn.step (pc' := 6) rfl rfl ?_
  refine Rn.icmp_ge (pc1 := 19) (pc2 := 9) rfl rfl rfl (fun h6 => ?_) (fun h6 => ?_)
  · obtain rfl := nI_up hN hk h6
    refine Rn.step (pc' := 20) rfl rfl ?_
    exact Rn.reti rfl (rfl) (rfl) (rfl)
  · have hk2 := nI_dn hN hk h6
    refine Rn.step (pc' := 10) rfl rfl ?_
    refine Rn.step (pc' := 11) rfl rfl ?_
    refine Rn.imul (pc' := 12) rfl rfl ?_
    refine Rn.step (pc' := 13) rfl rfl ?_
    refine Rn.step (pc' := 16) rfl rfl ?_
    refine Rn.step (pc' := 4) rfl rfl ?_
    exact Rn.ls4 rfl rfl (congrArg Value.int (by rw [pk_mul, Nat.pow_succ])) (congrArg Value.int (nI_i1 k)) (l_M_power hN (k + 1) (by omega))
termination_by N - k
theorem c_M_power {d B N : Nat} {m : xM} (hN : N < 2 ^ 31) : Cl d j_M_power [.int (nI B), .int (nI N)] m (Pi (nI (B ^ N)) m) := by
  show Rn d j_M_power 0 _ _ _ _
  refine Rn.iconst (v := 1) (pc' := 1) rfl (by decide) rfl ?_
  refine Rn.step (pc' := 2) rfl rfl ?_
  refine Rn.iconst (v := 0) (pc' := 3) rfl (by decide) rfl ?_
  refine Rn.step (pc' := 4) rfl rfl ?_
  exact Rn.ls4 rfl rfl rfl rfl (l_M_power hN 0 (by omega))
theorem pw_b {B e : Nat} (hB : B ≤ 6) (he : e ≤ 4) : (B + 1) ^ e ≤ 2401 := Nat.le_trans (Nat.pow_le_pow_left (show B + 1 ≤ 7 by omega) e) (Nat.pow_le_pow_right (show 0 < 7 by omega) he)
/-- who is named at the j-th hour by a number, 0: nobody -/
def nmd (Bn N c j : Nat) : Nat := c / (Bn + 1) ^ (N - 1 - j) % (Bn + 1)
theorem c_M_namedIn {d Bn N c j : Nat} (hd : 1 ≤ d) (hB : s 2 = nI Bn) (hB6 : Bn ≤ 6) (hN : N ≤ 4) (hj : j < N) (hc : c < 2 ^ 31) : Cl d j_M_namedIn [.ref 50, .int (nI c), .int (nI N), .int (nI j)] (MS m0 v dx A LA s) (Pi (nI (nmd Bn N c j) - 1) (MS m0 v dx A LA s)) := by
  show Rn d j_M_namedIn 0 _ _ _ _
  have hp0 : 0 < (Bn + 1) ^ (N - 1 - j) := Nat.pow_pos (by omega)
  have hpb := pw_b (B := Bn) (e := N - 1 - j) hB6 (by omega)
  have hc2 : c / (Bn + 1) ^ (N - 1 - j) < 2 ^ 31 := Nat.lt_of_le_of_lt (Nat.div_le_self _ _) (by omega)
  refine Rn.step (pc' := 1) rfl rfl ?_
  refine Rn.step (pc' := 2) rfl rfl ?_
  refine Rn.getf (pc' := 5) rfl rfl rfl rfl rfl ?_
  refine Rn.iconst (v := 2) (pc' := 6) rfl (by decide) rfl ?_
  refine Rn.sald (k := 2) (pc' := 7) rfl rfl (by simp only [nI_lit, nI_add, pk_mul]) (by omega) (by decide) rfl ?_
  refine Rn.iconst (v := 1) (pc' := 8) rfl (by decide) rfl ?_
  refine Rn.iadd (pc' := 9) rfl rfl ?_
  refine Rn.step (pc' := 10) rfl rfl ?_
  refine Rn.iconst (v := 1) (pc' := 11) rfl (by decide) rfl ?_
  refine Rn.isub (pc' := 12) rfl rfl ?_
  refine Rn.step (pc' := 13) rfl rfl ?_
  refine Rn.isub (pc' := 14) rfl rfl ?_
  rw [hB, show nI Bn + 1 = nI (Bn + 1) from nI_1 Bn, show nI N - 1 = nI (N - 1) from nI_sub (b := 1) (by omega) (by omega), nI_sub (show j ≤ N - 1 by omega) (by omega)]
  refine Rn.si (pc' := 17) rfl (by decide) (by omega) rfl rfl (c_M_power (B := Bn + 1) (N := N - 1 - j) (by omega)) ?_
  refine Rn.idiv (pc' := 18) rfl (fun z => absurd ((nI_eq (b := 0) (by omega) (by omega)).mp z) (by omega)) rfl ?_
  refine Rn.step (pc' := 19) rfl rfl ?_
  refine Rn.getf (pc' := 22) rfl rfl rfl rfl rfl ?_
  refine Rn.iconst (v := 2) (pc' := 23) rfl (by decide) rfl ?_
  refine Rn.sald (k := 2) (pc' := 24) rfl rfl (by simp only [nI_lit, nI_add, pk_mul]) (by omega) (by decide) rfl ?_
  refine Rn.iconst (v := 1) (pc' := 25) rfl (by decide) rfl ?_
  refine Rn.iadd (pc' := 26) rfl rfl ?_
  refine Rn.irem (pc' := 27) rfl (by rw [hB, show nI Bn + 1 = nI (Bn + 1) from nI_1 Bn]; exact fun z => absurd ((nI_eq (b := 0) (by omega) (by omega)).mp z) (by omega)) rfl ?_
  refine Rn.iconst (v := 1) (pc' := 28) rfl (by decide) rfl ?_
  refine Rn.isub (pc' := 29) rfl rfl ?_
  refine Rn.reti rfl rfl ?_ rfl
  rw [hB, show nI Bn + 1 = nI (Bn + 1) from nI_1 Bn, pk_div (by omega) hp0 (by omega), pk_rem hc2 (by omega) (by omega)]
  rfl
/-- b puts on what he can of both -/
abbrev tkb (s : Nat → Int32) (k b : Nat) : Nat → Int32 := if gCw s k b then upd s (46 + 3 * k) (nI b) else s
def tk2 (s : Nat → Int32) (b : Nat) : Nat → Int32 := tkb (tkb s 0 b) 1 b
def tkn (s : Nat → Int32) (q : Nat) : Nat → Int32 := if q = 0 then s else tk2 s (q - 1)
theorem tkb_w {P Bn k b : Nat} {s : Nat → Int32} (g : WD P Bn s) (hB : Bn ≤ 6) (hk : k < 2) (hb : b < Bn) : FX s (tkb s k b) ∧ WD P Bn (tkb s k b) := by
  unfold tkb
  split
  · refine ⟨FX.up s _ _ (by unfold fxc; omega), g.wrs hB (fun i h1 h2 h3 h4 => upd_n _ _ (by omega)) (fun i hi => ?_)⟩
    by_cases e : i = k
    · subst e
      rw [upd_s]
      exact Or.inr ⟨b, hb, rfl⟩
    · rw [upd_n _ _ (by omega)]
      exact g.wr i hi
  · exact ⟨FX.refl s, g⟩
theorem tkn_w {P Bn q : Nat} {s : Nat → Int32} (g : WD P Bn s) (hB : Bn ≤ 6) (hq : q ≤ Bn) : FX s (tkn s q) ∧ WD P Bn (tkn s q) := by
  unfold tkn
  split
  · exact ⟨FX.refl s, g⟩
  · obtain ⟨f1, g1⟩ := tkb_w g hB (show 0 < 2 by omega) (show q - 1 < Bn by omega)
    obtain ⟨f2, g2⟩ := tkb_w g1 hB (show 1 < 2 by omega) (show q - 1 < Bn by omega)
    exact ⟨f1.trans f2, g2⟩
theorem w_r30 {d P Bn q : Nat} {t : Nat → Int32} {c n j : Int32} {Q : Option Value → xM → Prop} (hw : WD P Bn t) (hB6 : Bn ≤ 6) (hq : q ≤ Bn) (hd : 3 ≤ d) (hk : ∀ i, Rn d j_M_runsRelay 69 [.ref 50, .int c, .int n, .int j, .int (nI q - 1), .int i] [] (MS m0 v dx A LA (tkn t q)) Q) {x5 : Value} : Rn d j_M_runsRelay 30 [.ref 50, .int c, .int n, .int j, .int (nI q - 1), x5] [] (MS m0 v dx A LA t) Q := by
  cases q with
  | zero =>
    have e1 : tkn t 0 = t := if_pos rfl
    rw [e1] at hk
    refine Rn.iconst (v := 0) (pc' := 31) rfl (by decide) rfl ?_
    refine Rn.step (pc' := 33) rfl rfl ?_
    refine Rn.step (pc' := 35) rfl rfl ?_
    refine Rn.iconst (v := 2) (pc' := 36) rfl (by decide) rfl ?_
    refine Rn.icmp_ge (pc1 := 69) (pc2 := 39) rfl rfl rfl (fun h36 => absurd h36 (show ¬ (2 : Int32) ≤ 0 from by decide)) (fun h36 => ?_)
    refine Rn.step (pc' := 41) rfl rfl ?_
    refine Rn.ifc_lt (pc1 := 69) (pc2 := 44) rfl rfl rfl (fun h41 => ?_) (fun h41 => absurd (show (nI 0 - 1 : Int32) < 0 from by decide) h41)
    exact hk 0
  | succ b =>
    have hb : b < Bn := hq
    have eb : nI (b + 1) - 1 = nI b := nI_sub (b := 1) (by omega) (by omega)
    rw [eb] at hk ⊢
    refine Rn.iconst (v := 0) (pc' := 31) rfl (by decide) rfl ?_
    refine Rn.step (pc' := 33) rfl rfl ?_
    refine Rn.step (pc' := 35) rfl rfl ?_
    refine Rn.iconst (v := 2) (pc' := 36) rfl (by decide) rfl ?_
    refine Rn.icmp_ge (pc1 := 69) (pc2 := 39) rfl rfl rfl (fun h36 => absurd h36 (show ¬ (2 : Int32) ≤ 0 from by decide)) (fun h36 => ?_)
    refine Rn.step (pc' := 41) rfl rfl ?_
    refine Rn.ifc_lt (pc1 := 69) (pc2 := 44) rfl rfl rfl (fun h41 => absurd h41 (nI_pos (by omega))) (fun h41 => ?_)
    refine Rn.step (pc' := 45) rfl rfl ?_
    refine Rn.step (pc' := 47) rfl rfl ?_
    refine Rn.step (pc' := 49) rfl rfl ?_
    refine Rn.vi (pc' := 52) rfl (by decide) (by omega) rfl rfl rfl (c_M_canWear (s := t) (by omega) 0 b (by omega) (by omega) (LI.wrr (hw) hB6 0 (by omega))) ?_
    refine Rn.ifp_eq (pc1 := 63) (pc2 := 55) rfl rfl rfl (fun h52 => ?_) (fun h52 => ?_)
    · refine Rn.step (pc' := 66) rfl rfl ?_
      refine Rn.step (pc' := 33) rfl rfl ?_
      have g0 := h52
      have e0 : tkb t 0 b = t := if_neg h52
      have hw1 : WD P Bn (t) := e0 ▸ (tkb_w hw hB6 (show 0 < 2 by omega) hb).2
      refine Rn.step (pc' := 35) rfl rfl ?_
      refine Rn.iconst (v := 2) (pc' := 36) rfl (by decide) rfl ?_
      refine Rn.icmp_ge (pc1 := 69) (pc2 := 39) rfl rfl rfl (fun h36 => absurd h36 (show ¬ (2 : Int32) ≤ 1 from by decide)) (fun h36 => ?_)
      refine Rn.step (pc' := 41) rfl rfl ?_
      refine Rn.ifc_lt (pc1 := 69) (pc2 := 44) rfl rfl rfl (fun h41 => absurd h41 (nI_pos (by omega))) (fun h41 => ?_)
      refine Rn.step (pc' := 45) rfl rfl ?_
      refine Rn.step (pc' := 47) rfl rfl ?_
      refine Rn.step (pc' := 49) rfl rfl ?_
      refine Rn.vi (pc' := 52) rfl (by decide) (by omega) rfl rfl rfl (c_M_canWear (s := t) (by omega) 1 b (by omega) (by omega) (LI.wrr (hw1) hB6 1 (by omega))) ?_
      refine Rn.ifp_eq (pc1 := 63) (pc2 := 55) rfl rfl rfl (fun h52 => ?_) (fun h52 => ?_)
      · refine Rn.step (pc' := 66) rfl rfl ?_
        refine Rn.step (pc' := 33) rfl rfl ?_
        have e1 : tkn t (b + 1) = t := by
          unfold tkn tk2
          rw [if_neg (by omega), show b + 1 - 1 = b from rfl, e0]
          exact if_neg h52
        refine Rn.step (pc' := 35) rfl rfl ?_
        refine Rn.iconst (v := 2) (pc' := 36) rfl (by decide) rfl ?_
        refine Rn.icmp_ge (pc1 := 69) (pc2 := 39) rfl rfl rfl (fun h36 => ?_) (fun h36 => absurd (show (2 : Int32) ≤ 2 from by decide) h36)
        rw [e1] at hk
        exact hk 2
      · refine Rn.step (pc' := 56) rfl rfl ?_
        refine Rn.step (pc' := 58) rfl rfl ?_
        refine Rn.step (pc' := 60) rfl rfl ?_
        refine Rn.vv (pc' := 63) rfl (by decide) (by omega) rfl rfl rfl (c_M_putsOn 1 (nI b) (by omega)) ?_
        refine Rn.step (pc' := 66) rfl rfl ?_
        refine Rn.step (pc' := 33) rfl rfl ?_
        have e1 : tkn t (b + 1) = upd (t) (46 + 3 * 1) (nI b) := by
          unfold tkn tk2
          rw [if_neg (by omega), show b + 1 - 1 = b from rfl, e0]
          exact if_pos h52
        refine Rn.step (pc' := 35) rfl rfl ?_
        refine Rn.iconst (v := 2) (pc' := 36) rfl (by decide) rfl ?_
        refine Rn.icmp_ge (pc1 := 69) (pc2 := 39) rfl rfl rfl (fun h36 => ?_) (fun h36 => absurd (show (2 : Int32) ≤ 2 from by decide) h36)
        rw [e1] at hk
        exact hk 2
    · refine Rn.step (pc' := 56) rfl rfl ?_
      refine Rn.step (pc' := 58) rfl rfl ?_
      refine Rn.step (pc' := 60) rfl rfl ?_
      refine Rn.vv (pc' := 63) rfl (by decide) (by omega) rfl rfl rfl (c_M_putsOn 0 (nI b) (by omega)) ?_
      refine Rn.step (pc' := 66) rfl rfl ?_
      refine Rn.step (pc' := 33) rfl rfl ?_
      have g0 := h52
      have e0 : tkb t 0 b = upd t (46 + 3 * 0) (nI b) := if_pos h52
      have hw1 : WD P Bn (upd t (46 + 3 * 0) (nI b)) := e0 ▸ (tkb_w hw hB6 (show 0 < 2 by omega) hb).2
      refine Rn.step (pc' := 35) rfl rfl ?_
      refine Rn.iconst (v := 2) (pc' := 36) rfl (by decide) rfl ?_
      refine Rn.icmp_ge (pc1 := 69) (pc2 := 39) rfl rfl rfl (fun h36 => absurd h36 (show ¬ (2 : Int32) ≤ 1 from by decide)) (fun h36 => ?_)
      refine Rn.step (pc' := 41) rfl rfl ?_
      refine Rn.ifc_lt (pc1 := 69) (pc2 := 44) rfl rfl rfl (fun h41 => absurd h41 (nI_pos (by omega))) (fun h41 => ?_)
      refine Rn.step (pc' := 45) rfl rfl ?_
      refine Rn.step (pc' := 47) rfl rfl ?_
      refine Rn.step (pc' := 49) rfl rfl ?_
      refine Rn.vi (pc' := 52) rfl (by decide) (by omega) rfl rfl rfl (c_M_canWear (s := upd t (46 + 3 * 0) (nI b)) (by omega) 1 b (by omega) (by omega) (LI.wrr (hw1) hB6 1 (by omega))) ?_
      refine Rn.ifp_eq (pc1 := 63) (pc2 := 55) rfl rfl rfl (fun h52 => ?_) (fun h52 => ?_)
      · refine Rn.step (pc' := 66) rfl rfl ?_
        refine Rn.step (pc' := 33) rfl rfl ?_
        have e1 : tkn t (b + 1) = upd t (46 + 3 * 0) (nI b) := by
          unfold tkn tk2
          rw [if_neg (by omega), show b + 1 - 1 = b from rfl, e0]
          exact if_neg h52
        refine Rn.step (pc' := 35) rfl rfl ?_
        refine Rn.iconst (v := 2) (pc' := 36) rfl (by decide) rfl ?_
        refine Rn.icmp_ge (pc1 := 69) (pc2 := 39) rfl rfl rfl (fun h36 => ?_) (fun h36 => absurd (show (2 : Int32) ≤ 2 from by decide) h36)
        rw [e1] at hk
        exact hk 2
      · refine Rn.step (pc' := 56) rfl rfl ?_
        refine Rn.step (pc' := 58) rfl rfl ?_
        refine Rn.step (pc' := 60) rfl rfl ?_
        refine Rn.vv (pc' := 63) rfl (by decide) (by omega) rfl rfl rfl (c_M_putsOn 1 (nI b) (by omega)) ?_
        refine Rn.step (pc' := 66) rfl rfl ?_
        refine Rn.step (pc' := 33) rfl rfl ?_
        have e1 : tkn t (b + 1) = upd (upd t (46 + 3 * 0) (nI b)) (46 + 3 * 1) (nI b) := by
          unfold tkn tk2
          rw [if_neg (by omega), show b + 1 - 1 = b from rfl, e0]
          exact if_pos h52
        refine Rn.step (pc' := 35) rfl rfl ?_
        refine Rn.iconst (v := 2) (pc' := 36) rfl (by decide) rfl ?_
        refine Rn.icmp_ge (pc1 := 69) (pc2 := 39) rfl rfl rfl (fun h36 => ?_) (fun h36 => absurd (show (2 : Int32) ≤ 2 from by decide) h36)
        rw [e1] at hk
        exact hk 2
/-- the hours of a relay: what is said, what is paid -/
def rrE (E : xEv) (s : Nat → Int32) (N c : Nat) : Nat → (Nat → Int32) × Int32
  | 0 => (s, 0)
  | j + 1 => (hS E (tkn (rrE E s N c j).1 (nmd E.Bn N c j)), (rrE E s N c j).2 + hP E (tkn (rrE E s N c j).1 (nmd E.Bn N c j)))
theorem rrE_s (E : xEv) (s : Nat → Int32) (N c j : Nat) : rrE E s N c (j + 1) = (hS E (tkn (rrE E s N c j).1 (nmd E.Bn N c j)), (rrE E s N c j).2 + hP E (tkn (rrE E s N c j).1 (nmd E.Bn N c j))) := rfl
theorem nmd_le (Bn N c j : Nat) : nmd Bn N c j ≤ Bn := by
  have := Nat.mod_lt (c / (Bn + 1) ^ (N - 1 - j)) (show 0 < Bn + 1 by omega)
  unfold nmd
  omega
theorem rrE_w {P : Nat} {E : xEv} {s : Nat → Int32} (h : WL P E.Bn E.Fn E.Wn s) (g : WD P E.Bn s) (N c : Nat) : ∀ j, FX s (rrE E s N c j).1 ∧ WD P E.Bn (rrE E s N c j).1
  | 0 => ⟨FX.refl s, g⟩
  | j + 1 => by
    obtain ⟨f1, g1⟩ := rrE_w h g N c j
    obtain ⟨f2, g2⟩ := tkn_w g1 h.b6 (nmd_le E.Bn N c j)
    obtain ⟨f3, g3⟩ := mPs_w 0 ((h.fx f1).fx f2) g2
    exact ⟨f1.trans (f2.trans f3), g3⟩
/-- how cold the first k are -/
def mCs (s : Nat → Int32) : Nat → Int32
  | 0 => 0
  | k + 1 => mCs s k + s (10 + 6 * k + 3)
theorem l_M_rr2 {d Bn : Nat} {t : Nat → Int32} {c n pay : Int32} {x4 x5 : Value} (hf : FX s t) (hB : t 2 = nI Bn) (hB6 : Bn ≤ 6) (hd : 1 ≤ d) (k : Nat) (hk : k ≤ Bn) {m : xM} (hm : MU m0 v A t (fun u _ B => u 31 = pay ∧ u 32 = mCs t k ∧ ∀ i, i < 52 → B 62 i = s i) m) : Rn d j_M_runsRelay 90 [.ref 50, .int c, .int n, .int (nI k), x4, x5] [] m (fun r m2 => r = none ∧ MU m0 v A s (fun u _ B => u 31 = pay ∧ u 32 = mCs t Bn ∧ ∀ i, i < 52 → B 62 i = s i) m2) := by
  obtain ⟨v1, dx1, A1, LA1, rfl, vs1, as1, q31, q32, q62⟩ := hm
  refine Rn.step (pc' := 91) rfl rfl ?_
  refine Rn.step (pc' := 92) rfl rfl ?_
  refine Rn.getf (pc' := 95) rfl rfl rfl rfl rfl ?_
  refine Rn.iconst (v := 2) (pc' := 96) rfl (by decide) rfl ?_
  refine Rn.sald (k := 2) (pc' := 97) rfl rfl (by simp only [nI_lit, nI_add, pk_mul]) (by omega) (by decide) rfl ?_
  refine Rn.icmp_ge (pc1 := 121) (pc2 := 100) rfl rfl rfl (fun h97 => ?_) (fun h97 => ?_)
  · obtain rfl := nI_up (by omega) hk (hB ▸ h97)
    refine Rn.step (pc' := 122) rfl rfl ?_
    refine Rn.vv (pc' := 125) rfl (by decide) (by omega) rfl rfl rfl (c_M_laysBack) ?_
    exact Rn.vret rfl (⟨rfl, by
        rw [cpf_back2 hf q62]
        exact ⟨v1, dx1, A1, LA1, rfl, vs1, as1, q31, q32, q62⟩⟩)
  · have hk2 := nI_dn (by omega) hk (hB ▸ h97)
    refine Rn.step (pc' := 101) rfl rfl ?_
    refine Rn.step (pc' := 102) rfl rfl ?_
    refine Rn.getf (pc' := 105) rfl rfl rfl rfl rfl ?_
    refine Rn.step (pc' := 106) rfl rfl ?_
    refine Rn.step (pc' := 107) rfl rfl ?_
    refine Rn.iconst (v := 3) (pc' := 108) rfl (by decide) rfl ?_
    refine Rn.vi (pc' := 111) rfl (by decide) (by omega) rfl rfl rfl (c_M_brotherOf k 3 (by omega)) ?_
    refine Rn.iadd (pc' := 112) rfl rfl ?_
    refine Rn.mput (pc' := 115) rfl rfl rfl rfl (by decide) rfl ?_
    refine Rn.step (pc' := 118) rfl rfl ?_
    refine Rn.step (pc' := 90) rfl rfl ?_
    exact Rn.ls6 rfl rfl rfl (congrArg Value.int (nI_i1 k)) rfl rfl (l_M_rr2 hf hB hB6 hd (k + 1) (by omega) ⟨_, _, _, _, rfl, vs_up vs1 (by unfold scr; omega) _, as1, q31, (congrArg (· + t (10 + 6 * k + 3)) q32), q62⟩)
termination_by Bn - k
theorem l_M_rr1 {d P Bn Fn Wn N c : Nat} {rl : xRl} (hl : WL P Bn Fn Wn s) (hw : WD P Bn s) (hv : v 24 = 0 ∨ v 24 = 1) (hru : mRu v A rl) (hd : 6 ≤ d) (hN : N ≤ 4) (hc : c < 2 ^ 31) (k : Nat) (x4 x5 : Value) (hk : k ≤ N) {m : xM} (hm : MU m0 v A (rrE (evf v rl Bn Fn Wn) s N c k).1 (fun u _ B => u 31 = (rrE (evf v rl Bn Fn Wn) s N c k).2 ∧ u 32 = 0 ∧ ∀ i, i < 52 → B 62 i = s i) m) : Rn d j_M_runsRelay 16 [.ref 50, .int (nI c), .int (nI N), .int (nI k), x4, x5] [] m (fun r m2 => r = none ∧ MU m0 v A s (fun u _ B => u 31 = (rrE (evf v rl Bn Fn Wn) s N c N).2 ∧ u 32 = mCs (rrE (evf v rl Bn Fn Wn) s N c N).1 Bn ∧ ∀ i, i < 52 → B 62 i = s i) m2) := by
  obtain ⟨v1, dx1, A1, LA1, rfl, vs1, as1, q31, q32, q62⟩ := hm
  have hE := evf_eq vs1 rl Bn Fn Wn
  have hf := (rrE_w (E := (evf v rl Bn Fn Wn)) hl hw N c k).1
  have hw1 := (rrE_w (E := (evf v rl Bn Fn Wn)) hl hw N c k).2
  have ht := hl.fx hf
  have hb6 := hl.b6
  refine Rn.step (pc' := 17) rfl rfl ?_
  refine Rn.step (pc' := 18) rfl rfl ?_
  refine Rn.icmp_ge (pc1 := 88) (pc2 := 21) rfl rfl rfl (fun h18 => ?_) (fun h18 => ?_)
  · obtain rfl := nI_up (by omega) hk h18
    refine Rn.iconst (v := 0) (pc' := 89) rfl (by decide) rfl ?_
    refine Rn.step (pc' := 90) rfl rfl ?_
    exact l_M_rr2 hf ht.b hl.b6 (by omega) 0 (by omega) ⟨v1, dx1, A1, LA1, rfl, vs1, as1, q31, q32, q62⟩
  · have hk2 := nI_dn (by omega) hk h18
    refine Rn.step (pc' := 22) rfl rfl ?_
    refine Rn.step (pc' := 23) rfl rfl ?_
    refine Rn.step (pc' := 24) rfl rfl ?_
    refine Rn.step (pc' := 25) rfl rfl ?_
    refine Rn.vi (pc' := 28) rfl (by decide) (by omega) rfl rfl rfl (c_M_namedIn (by omega) ht.b hl.b6 hN hk2 hc) ?_
    refine Rn.step (pc' := 30) rfl rfl ?_
    refine w_r30 hw1 hl.b6 (nmd_le Bn N c k) (by omega) (fun i => ?_)
    refine Rn.step (pc' := 70) rfl rfl ?_
    refine Rn.step (pc' := 71) rfl rfl ?_
    refine Rn.getf (pc' := 74) rfl rfl rfl rfl rfl ?_
    refine Rn.step (pc' := 75) rfl rfl ?_
    refine Rn.callV (pc' := 78) rfl (by decide) (by omega) rfl rfl rfl (g_pass (ht.fx (tkn_w hw1 hl.b6 (nmd_le Bn N c k)).1) (tkn_w hw1 hl.b6 (nmd_le Bn N c k)).2 (hv_g hv vs1) (hru.g vs1 as1) (by omega)) (fun r_ m_ hc_ => ?_)
    obtain ⟨hr, x3, LA3, rfl⟩ := hc_
    rw [hE] at hr ⊢
    subst hr
    refine Rn.iadd (pc' := 79) rfl rfl ?_
    refine Rn.mput (pc' := 82) rfl rfl rfl rfl (by decide) rfl ?_
    refine Rn.step (pc' := 85) rfl rfl ?_
    refine Rn.step (pc' := 16) rfl rfl ?_
    exact Rn.ls6 rfl rfl rfl (congrArg Value.int (nI_i1 k)) rfl rfl (l_M_rr1 hl hw hv hru hd hN hc (k + 1) _ _ (by omega) ⟨_, _, _, _, rfl, vs_up (vs_up (vs_up vs1 (by unfold scr; omega) _) (by unfold scr; omega) _) (by unfold scr; omega) _, as1, (congrArg (· + hP (evf v rl Bn Fn Wn) (tkn (rrE (evf v rl Bn Fn Wn) s N c k).1 (nmd Bn N c k))) q31), q32, q62⟩)
termination_by N - k
theorem c_M_runsRelay {d P Bn Fn Wn N c : Nat} {rl : xRl} (hl : WL P Bn Fn Wn s) (hw : WD P Bn s) (hv : v 24 = 0 ∨ v 24 = 1) (hru : mRu v A rl) (hd : 6 ≤ d) (hN : N ≤ 4) (hc : c < 2 ^ 31) {m : xM} (hm : MG m0 v A s m) : Cl d j_M_runsRelay [.ref 50, .int (nI c), .int (nI N)] m (fun r m2 => r = none ∧ MU m0 v A s (fun u _ B => u 31 = (rrE (evf v rl Bn Fn Wn) s N c N).2 ∧ u 32 = mCs (rrE (evf v rl Bn Fn Wn) s N c N).1 Bn ∧ ∀ i, i < 52 → B 62 i = s i) m2) := by
  show Rn d j_M_runsRelay 0 _ _ _ _
  obtain ⟨v1, dx1, A1, LA1, rfl, vs1, as1⟩ := hm
  refine Rn.step (pc' := 1) rfl rfl ?_
  refine Rn.iconst (v := 0) (pc' := 2) rfl (by decide) rfl ?_
  refine Rn.mput (pc' := 5) rfl rfl rfl rfl (by decide) rfl ?_
  refine Rn.step (pc' := 6) rfl rfl ?_
  refine Rn.iconst (v := 0) (pc' := 7) rfl (by decide) rfl ?_
  refine Rn.mput (pc' := 10) rfl rfl rfl rfl (by decide) rfl ?_
  refine Rn.step (pc' := 11) rfl rfl ?_
  refine Rn.vv (pc' := 14) rfl (by decide) (by omega) rfl rfl rfl (c_M_keeps) ?_
  refine Rn.iconst (v := 0) (pc' := 15) rfl (by decide) rfl ?_
  refine Rn.step (pc' := 16) rfl rfl ?_
  exact l_M_rr1 hl hw hv hru hd hN hc 0 _ _ (by omega) ⟨_, _, _, _, rfl, vs_up (vs_up vs1 (by unfold scr; omega) _) (by unfold scr; omega) _, as_up as1 (by unfold sca; omega) _, rfl, rfl, cpf_lt⟩
end ME
