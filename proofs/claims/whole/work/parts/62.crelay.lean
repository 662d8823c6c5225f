/-! THE CLASS: relays. -/
section CM
variable {m0 : xM} {F I : Nat → Nat → Int32} {L : Nat → Nat → Int64} {R : Nat → Nat → Option Nat} {H : Value} {s w : Nat → Int32} {o : Nat} {gg : Prop}
abbrev rAcc : Type := Option Nat × Int32 × Int32
abbrev Dom (acc : rAcc) (e ch : Int32) : Prop := ¬ eO acc.1 < 0 ∧ (e < acc.2.1 ∨ (e = acc.2.1 ∧ ¬ ch < acc.2.2))
def jdg (acc : rAcc) (c : Nat) (e ch : Int32) : rAcc := if Dom acc e ch then acc else (some c, e, ch)
/-- all rows of names below one, in a tree -/
def trq (f : (Nat → Int32) → Int32 → Nat → rAcc → rAcc) (E : xEv) (t : Nat → Int32) (e : Int32) (c : Nat) : Nat → rAcc → rAcc
  | 0, acc => acc
  | q + 1, acc => f (hS E (tkn t q)) (e + hP E (tkn t q)) (c * (E.Bn + 1) + q) (trq f E t e c q acc)
def tr (E : xEv) : Nat → (Nat → Int32) → Int32 → Nat → rAcc → rAcc
  | 0, t, e, c, acc => jdg acc c e (mCs t E.Bn)
  | r + 1, t, e, c, acc => trq (tr E r) E t e c (E.Bn + 1) acc
theorem trq_s (f : (Nat → Int32) → Int32 → Nat → rAcc → rAcc) (E : xEv) (t : Nat → Int32) (e : Int32) (c q : Nat) (acc : rAcc) : trq f E t e c (q + 1) acc = f (hS E (tkn t q)) (e + hP E (tkn t q)) (c * (E.Bn + 1) + q) (trq f E t e c q acc) := rfl
def rlF (E : xEv) (s : Nat → Int32) (N a : Nat) : Nat → rAcc → rAcc
  | 0, acc => acc
  | n + 1, acc => jdg (rlF E s N a n acc) (a + n) (rrE E s N (a + n) N).2 (mCs (rrE E s N (a + n) N).1 E.Bn)
theorem rlE_F (E : xEv) (s : Nat → Int32) (N : Nat) : ∀ k, rlE E s N k = rlF E s N 0 k (none, 0, 0)
  | 0 => rfl
  | k + 1 => by
    rw [rlE_s, rlF, Nat.zero_add, ← rlE_F E s N k]
    rfl
theorem rlF_add (E : xEv) (s : Nat → Int32) (N a n : Nat) (acc : rAcc) : ∀ m, rlF E s N a (n + m) acc = rlF E s N (a + n) m (rlF E s N a n acc)
  | 0 => rfl
  | m + 1 => by
    rw [← Nat.add_assoc, rlF, rlF, rlF_add E s N a n acc m, Nat.add_assoc]
theorem rlF_tr (E : xEv) (s : Nat → Int32) (N : Nat) : ∀ r, r ≤ N → ∀ (t : Nat → Int32) (e : Int32) (c : Nat) (acc : rAcc), (∀ i, i < (E.Bn + 1) ^ r → rrE E s N (c * (E.Bn + 1) ^ r + i) (N - r) = (t, e)) → rlF E s N (c * (E.Bn + 1) ^ r) ((E.Bn + 1) ^ r) acc = tr E r t e c acc
  | 0, _, t, e, c, acc, h => by
    have h0 := h 0 (by rw [Nat.pow_zero]; omega)
    rw [Nat.pow_zero, Nat.mul_one, Nat.add_zero, Nat.sub_zero] at h0
    rw [Nat.pow_zero, Nat.mul_one]
    show jdg acc (c + 0) (rrE E s N (c + 0) N).2 (mCs (rrE E s N (c + 0) N).1 E.Bn) = jdg acc c e (mCs t E.Bn)
    rw [Nat.add_zero, h0]
  | r + 1, hr, t, e, c, acc, h => by
    have hB : 0 < (E.Bn + 1) ^ r := Nat.pow_pos (by omega)
    have key : ∀ q, q ≤ E.Bn + 1 → rlF E s N (c * (E.Bn + 1) ^ (r + 1)) (q * (E.Bn + 1) ^ r) acc = trq (tr E r) E t e c q acc := by
      intro q
      induction q with
      | zero => exact fun _ => by rw [Nat.zero_mul]; rfl
      | succ q ih =>
        intro hq
        have e1 : c * (E.Bn + 1) ^ (r + 1) + q * (E.Bn + 1) ^ r = (c * (E.Bn + 1) + q) * (E.Bn + 1) ^ r := by
          rw [Nat.pow_succ, Nat.add_mul, Nat.mul_assoc, Nat.mul_comm ((E.Bn + 1) ^ r)]
        rw [Nat.succ_mul, rlF_add, ih (by omega), e1, trq_s]
        refine rlF_tr E s N r (by omega) _ _ _ _ (fun i hi => ?_)
        have hlt : q * (E.Bn + 1) ^ r + i < (E.Bn + 1) ^ (r + 1) := by
          rw [Nat.pow_succ, Nat.mul_comm ((E.Bn + 1) ^ r)]
          have : (q + 1) * (E.Bn + 1) ^ r ≤ (E.Bn + 1) * (E.Bn + 1) ^ r := Nat.mul_le_mul_right _ hq
          rw [Nat.succ_mul] at this
          omega
        have h1 := h (q * (E.Bn + 1) ^ r + i) hlt
        rw [← Nat.add_assoc, e1] at h1
        have hd : nmd E.Bn N ((c * (E.Bn + 1) + q) * (E.Bn + 1) ^ r + i) (N - (r + 1)) = q := by
          unfold nmd
          rw [show N - 1 - (N - (r + 1)) = r by omega, Nat.mul_comm (c * (E.Bn + 1) + q), Nat.mul_add_div hB, Nat.div_eq_of_lt hi, Nat.add_zero, Nat.mul_comm c, Nat.mul_add_mod, Nat.mod_eq_of_lt (by omega)]
        rw [show N - r = N - (r + 1) + 1 by omega, rrE_s, hd, h1]
    have := key (E.Bn + 1) (Nat.le_refl _)
    rw [Nat.mul_comm (E.Bn + 1), ← Nat.pow_succ] at this
    exact this
theorem rlE_tr (E : xEv) (s : Nat → Int32) (N : Nat) : rlE E s N ((E.Bn + 1) ^ N) = tr E N s 0 0 (none, 0, 0) := by
  rw [rlE_F]
  have := rlF_tr E s N N (Nat.le_refl _) s 0 0 (none, 0, 0) (fun i _ => by rw [Nat.sub_self]; rfl)
  rw [Nat.zero_mul] at this
  exact this
theorem eO_some {c : Nat} (h : c < 2 ^ 31) : ¬ eO (some c) < 0 := nI_pos h
theorem jdg_self {acc : rAcc} {c : Nat} {e ch : Int32} (h : c < 2 ^ 31) : Dom (jdg acc c e ch) e ch := by
  unfold jdg
  split
  · assumption
  · exact ⟨eO_some h, Or.inr ⟨rfl, fun z => by
    have z2 : ch < ch := z
    rw [Int32.lt_iff_toInt_lt] at z2
    omega⟩⟩
theorem jdg_mono {acc : rAcc} {c : Nat} {e ch e' ch' : Int32} (h : c < 2 ^ 31) (g : Dom acc e' ch') : Dom (jdg acc c e ch) e' ch' := by
  unfold jdg
  split
  · exact g
  · rename_i hn
    refine ⟨eO_some h, ?_⟩
    have h1 : ¬ e < acc.2.1 := fun z => hn ⟨g.1, Or.inl z⟩
    have h2 : e = acc.2.1 → ch < acc.2.2 := fun z => Decidable.byContradiction (fun y => hn ⟨g.1, Or.inr ⟨z, y⟩⟩)
    show e' < e ∨ (e' = e ∧ ¬ ch' < ch)
    by_cases he : e = acc.2.1
    · have h3 := h2 he
      rcases g.2 with g2 | ⟨g2, g3⟩
      · exact Or.inl (by rw [he]; exact g2)
      · exact Or.inr ⟨g2.trans he.symm, fun z => g3 (by rw [Int32.lt_iff_toInt_lt] at z h3 ⊢; omega)⟩
    · have h4 : acc.2.1 < e := by
        rw [Int32.lt_iff_toInt_lt] at h1 ⊢
        have : e.toInt ≠ acc.2.1.toInt := fun y => he (Int32.toInt_inj.mp y)
        omega
      rcases g.2 with g2 | ⟨g2, g3⟩
      · exact Or.inl (by rw [Int32.lt_iff_toInt_lt] at g2 h4 ⊢; omega)
      · exact Or.inl (by rw [g2]; exact h4)
def DA (E : xEv) : Nat → (Nat → Int32) → Int32 → rAcc → Prop
  | 0, t, e, acc => Dom acc e (mCs t E.Bn)
  | r + 1, t, e, acc => ∀ q, q ≤ E.Bn → DA E r (hS E (tkn t q)) (e + hP E (tkn t q)) acc
theorem DA_jdg {E : xEv} {c : Nat} {x y : Int32} (h : c < 2 ^ 31) : ∀ {r : Nat} {t : Nat → Int32} {e : Int32} {acc : rAcc}, DA E r t e acc → DA E r t e (jdg acc c x y)
  | 0, _, _, _, g => jdg_mono h g
  | r + 1, _, _, _, g => fun q hq => DA_jdg h (g q hq)
theorem cB_le {B c q r M : Nat} (hq : q < B) (h : (c + 1) * B ^ (r + 1) ≤ M) : (c * B + q + 1) * B ^ r ≤ M := by
  have h1 : c * B + q + 1 ≤ (c + 1) * B := by
    rw [Nat.succ_mul]
    omega
  refine Nat.le_trans (Nat.mul_le_mul_right (B ^ r) h1) ?_
  rw [Nat.pow_succ, Nat.mul_comm (B ^ r), ← Nat.mul_assoc] at h
  exact h
theorem tr_inv {E : xEv} {Φ : rAcc → Prop} (hΦ : ∀ acc c e ch, c < 2 ^ 31 → Φ acc → Φ (jdg acc c e ch)) : ∀ (r : Nat) (t : Nat → Int32) (e : Int32) (c : Nat) (acc : rAcc), (c + 1) * (E.Bn + 1) ^ r ≤ 2 ^ 31 → Φ acc → Φ (tr E r t e c acc)
  | 0, t, e, c, acc, hb, h => hΦ acc c _ _ (by rw [Nat.pow_zero] at hb; omega) h
  | r + 1, t, e, c, acc, hb, h => by
    have key : ∀ q, q ≤ E.Bn + 1 → Φ (trq (tr E r) E t e c q acc) := by
      intro q
      induction q with
      | zero => exact fun _ => h
      | succ q ih => exact fun hq => tr_inv hΦ r _ _ _ _ (cB_le (by omega) hb) (ih (by omega))
    exact key (E.Bn + 1) (Nat.le_refl _)
theorem tr_A {E : xEv} : ∀ (r : Nat) (t : Nat → Int32) (e : Int32) (c : Nat) (acc : rAcc), DA E r t e acc → tr E r t e c acc = acc
  | 0, _, _, _, _, h => if_pos h
  | r + 1, t, e, c, acc, h => by
    have key : ∀ q, q ≤ E.Bn + 1 → trq (tr E r) E t e c q acc = acc := by
      intro q
      induction q with
      | zero => exact fun _ => rfl
      | succ q ih =>
        intro hq
        rw [trq_s, ih (by omega)]
        exact tr_A r _ _ _ _ (h q (by omega))
    exact key (E.Bn + 1) (Nat.le_refl _)
theorem tr_B {E : xEv} : ∀ (r : Nat) (t : Nat → Int32) (e : Int32) (c : Nat) (acc : rAcc), (c + 1) * (E.Bn + 1) ^ r ≤ 2 ^ 31 → DA E r t e (tr E r t e c acc)
  | 0, _, _, c, _, hb => jdg_self (by rw [Nat.pow_zero] at hb; omega)
  | r + 1, t, e, c, acc, hb => by
    have key : ∀ q, q ≤ E.Bn + 1 → ∀ q', q' < q → DA E r (hS E (tkn t q')) (e + hP E (tkn t q')) (trq (tr E r) E t e c q acc) := by
      intro q
      induction q with
      | zero => exact fun _ q' h => absurd h (by omega)
      | succ q ih =>
        intro hq q' hq'
        rw [trq_s]
        by_cases e1 : q' = q
        · subst e1
          exact tr_B r _ _ _ _ (cB_le (by omega) hb)
        · exact tr_inv (fun acc c e ch hc h => DA_jdg hc h) r _ _ _ _ (cB_le (by omega) hb) (ih (by omega) q' (by omega))
    exact fun q hq => key (E.Bn + 1) (Nat.le_refl _) q (by omega)
/-- does b put on a boot -/
abbrev mv (t : Nat → Int32) (b : Nat) : Prop := gCw t 0 b ∨ gCw (tkb t 0 b) 1 b
def trq2 (f : (Nat → Int32) → Int32 → Nat → rAcc → rAcc) (E : xEv) (t : Nat → Int32) (e : Int32) (c : Nat) : Nat → rAcc → rAcc
  | 0, acc => acc
  | q + 1, acc => if q = 0 ∨ mv t (q - 1) then f (hS E (tkn t q)) (e + hP E (tkn t q)) (c * (E.Bn + 1) + q) (trq2 f E t e c q acc) else trq2 f E t e c q acc
def tr2 (E : xEv) : Nat → (Nat → Int32) → Int32 → Nat → rAcc → rAcc
  | 0, t, e, c, acc => jdg acc c e (mCs t E.Bn)
  | r + 1, t, e, c, acc => trq2 (tr2 E r) E t e c (E.Bn + 1) acc
theorem trq2_s (f : (Nat → Int32) → Int32 → Nat → rAcc → rAcc) (E : xEv) (t : Nat → Int32) (e : Int32) (c q : Nat) (acc : rAcc) : trq2 f E t e c (q + 1) acc = if q = 0 ∨ mv t (q - 1) then f (hS E (tkn t q)) (e + hP E (tkn t q)) (c * (E.Bn + 1) + q) (trq2 f E t e c q acc) else trq2 f E t e c q acc := rfl
theorem tkn_id {t : Nat → Int32} {q : Nat} (h : ¬ mv t (q - 1)) : tkn t q = tkn t 0 := by
  unfold tkn
  by_cases e : q = 0
  · rw [if_pos e, if_pos rfl]
  · rw [if_neg e, if_pos rfl]
    unfold tk2
    have h1 : tkb t 0 (q - 1) = t := if_neg (fun z => h (Or.inl z))
    have h2 : tkb (tkb t 0 (q - 1)) 1 (q - 1) = tkb t 0 (q - 1) := if_neg (fun z => h (Or.inr z))
    rw [h2, h1]
theorem tr_eq {E : xEv} : ∀ (r : Nat) (t : Nat → Int32) (e : Int32) (c : Nat) (acc : rAcc), (c + 1) * (E.Bn + 1) ^ r ≤ 2 ^ 31 → tr E r t e c acc = tr2 E r t e c acc
  | 0, _, _, _, _, _ => rfl
  | r + 1, t, e, c, acc, hb => by
    have key : ∀ q, q ≤ E.Bn + 1 → trq (tr E r) E t e c q acc = trq2 (tr2 E r) E t e c q acc ∧ (0 < q → DA E r (hS E (tkn t 0)) (e + hP E (tkn t 0)) (trq (tr E r) E t e c q acc)) := by
      intro q
      induction q with
      | zero => exact fun _ => ⟨rfl, fun z => absurd z (by omega)⟩
      | succ q ih =>
        intro hq
        obtain ⟨i1, i2⟩ := ih (by omega)
        have hb2 := cB_le (q := q) (by omega) hb
        have hDA : DA E r (hS E (tkn t 0)) (e + hP E (tkn t 0)) (trq (tr E r) E t e c (q + 1) acc) := by
          rw [trq_s]
          by_cases e0 : q = 0
          · subst e0
            exact tr_B r _ _ _ _ hb2
          · exact tr_inv (fun acc c e ch hc h => DA_jdg hc h) r _ _ _ _ hb2 (i2 (by omega))
        refine ⟨?_, fun _ => hDA⟩
        rw [trq_s, trq2_s, ← i1]
        split
        · exact tr_eq r _ _ _ _ hb2
        · rename_i hn
          have h0 : ¬ q = 0 := fun z => hn (Or.inl z)
          rw [tkn_id (fun z => hn (Or.inr z))]
          exact tr_A r _ _ _ _ (i2 (by omega))
    exact (key (E.Bn + 1) (Nat.le_refl _)).1
theorem WR.tkb {gg : Prop} {Bn k b : Nat} {t w : Nat → Int32} (h : WR gg Bn t w) (hB : Bn ≤ 6) (hk : k < 2) (hb : b < Bn) : WR gg Bn (upd t (46 + 3 * k) (nI b)) (upd w (24 + k) (nI b)) := h.uWr hB hk (nI b) (nI_pos (by omega))
set_option maxHeartbeats 4000000 in
theorem c_R_takes {d P Bn b : Nat} {t : Nat → Int32} (hd : 1 ≤ d) (ho : isW o) (hr : WR gg Bn t w) (gw : WD P Bn t) (hB : Bn ≤ 6) (hb : b < Bn) (hfit : ¬ t 1 < t (10 + 6 * b + 2)) : Cl d j_Relays_takes [.ref o, .int (nI b)] (CWm m0 F I L R H o w) (fun r m2 => r = some (.int (if mv t b then 1 else 0)) ∧ ∃ w2, m2 = CWm m0 F I L R H o w2 ∧ WR gg Bn (tkn t (b + 1)) w2) := by
  show Rn d j_Relays_takes 0 _ _ _ _
  refine Rn.iconst (v := 0) (pc' := 1) rfl (by decide) rfl ?_
  refine Rn.step (pc' := 2) rfl rfl ?_
  refine Rn.iconst (v := 0) (pc' := 3) rfl (by decide) rfl ?_
  refine Rn.step (pc' := 4) rfl rfl ?_
  refine Rn.step (pc' := 5) rfl rfl ?_
  refine Rn.iconst (v := 2) (pc' := 6) rfl (by decide) rfl ?_
  refine Rn.icmp_ge (pc1 := 68) (pc2 := 9) rfl rfl rfl (fun h6 => absurd h6 (show ¬ (2 : Int32) ≤ 0 from by decide)) (fun h6 => ?_)
  refine Rn.step (pc' := 10) rfl rfl ?_
  refine Rn.step (pc' := 11) rfl rfl ?_
  refine Rn.vi (pc' := 14) rfl (by decide) (by omega) rfl (rcvW ho rfl) rfl (c_W_placeOfBoot (k := 0) ho (hr) hB (gw.wr) (by omega)) ?_
  refine Rn.step (pc' := 15) rfl rfl ?_
  refine Rn.cgw (pc' := 18) rfl ho rfl ?_
  refine Rn.iconst (v := 0) (pc' := 19) rfl (by decide) rfl ?_
  refine Rn.step (pc' := 20) rfl rfl ?_
  refine Rn.iadd (pc' := 21) rfl rfl ?_
  refine Rn.cwld (k := b) (pc' := 22) rfl ho (by simp only [nI_lit, nI_add, pk_mul, Nat.zero_add]) (by omega) ((hr).pl b hb) (by decide) rfl ?_
  refine Rn.icmp_ne (pc1 := 29) (pc2 := 25) rfl rfl rfl (fun h22 => ?_) (fun h22 => ?_)
  · refine Rn.iconst (v := 0) (pc' := 30) rfl (by decide) rfl ?_
    refine Rn.step (pc' := 32) rfl rfl ?_
    refine Rn.step (pc' := 34) rfl rfl ?_
    refine Rn.ifc_eq (pc1 := 62) (pc2 := 37) rfl rfl rfl (fun h34 => ?_) (fun h34 => absurd (rfl) h34)
    refine Rn.step (pc' := 65) rfl rfl ?_
    refine Rn.step (pc' := 4) rfl rfl ?_
    have g0 : ¬ gCw t 0 b := fun z => h22 z.2.2
    have e0 : tkb t 0 b = t := if_neg g0
    have hr1 : WR gg Bn (t) (w) := hr
    have gw1 : WD P Bn (t) := e0 ▸ (tkb_w gw hB (show 0 < 2 by omega) hb).2
    have hfit1 : ¬ (t) 1 < (t) (10 + 6 * b + 2) := hfit
    refine Rn.ls5 (b3 := .int 1) rfl rfl rfl (congrArg Value.int (by decide)) rfl ?_
    refine Rn.step (pc' := 5) rfl rfl ?_
    refine Rn.iconst (v := 2) (pc' := 6) rfl (by decide) rfl ?_
    refine Rn.icmp_ge (pc1 := 68) (pc2 := 9) rfl rfl rfl (fun h6 => absurd h6 (show ¬ (2 : Int32) ≤ 1 from by decide)) (fun h6 => ?_)
    refine Rn.step (pc' := 10) rfl rfl ?_
    refine Rn.step (pc' := 11) rfl rfl ?_
    refine Rn.vi (pc' := 14) rfl (by decide) (by omega) rfl (rcvW ho rfl) rfl (c_W_placeOfBoot (k := 1) ho (hr1) hB (gw1.wr) (by omega)) ?_
    refine Rn.step (pc' := 15) rfl rfl ?_
    refine Rn.cgw (pc' := 18) rfl ho rfl ?_
    refine Rn.iconst (v := 0) (pc' := 19) rfl (by decide) rfl ?_
    refine Rn.step (pc' := 20) rfl rfl ?_
    refine Rn.iadd (pc' := 21) rfl rfl ?_
    refine Rn.cwld (k := b) (pc' := 22) rfl ho (by simp only [nI_lit, nI_add, pk_mul, Nat.zero_add]) (by omega) ((hr1).pl b hb) (by decide) rfl ?_
    refine Rn.icmp_ne (pc1 := 29) (pc2 := 25) rfl rfl rfl (fun h22 => ?_) (fun h22 => ?_)
    · refine Rn.iconst (v := 0) (pc' := 30) rfl (by decide) rfl ?_
      refine Rn.step (pc' := 32) rfl rfl ?_
      refine Rn.step (pc' := 34) rfl rfl ?_
      refine Rn.ifc_eq (pc1 := 62) (pc2 := 37) rfl rfl rfl (fun h34 => ?_) (fun h34 => absurd (rfl) h34)
      refine Rn.step (pc' := 65) rfl rfl ?_
      refine Rn.step (pc' := 4) rfl rfl ?_
      have g1 : ¬ gCw (tkb t 0 b) 1 b := by rw [e0]; exact fun z => h22 z.2.2
      have e1 : tkn t (b + 1) = t := by
        unfold tkn tk2
        rw [if_neg (by omega), show b + 1 - 1 = b from rfl]
        have : tkb (tkb t 0 b) 1 b = tkb t 0 b := if_neg g1
        rw [this, e0]
      refine Rn.ls5 (b3 := .int 2) rfl rfl rfl (congrArg Value.int (by decide)) rfl ?_
      refine Rn.step (pc' := 5) rfl rfl ?_
      refine Rn.iconst (v := 2) (pc' := 6) rfl (by decide) rfl ?_
      refine Rn.icmp_ge (pc1 := 68) (pc2 := 9) rfl rfl rfl (fun h6 => ?_) (fun h6 => absurd (show (2 : Int32) ≤ 2 from by decide) h6)
      refine Rn.step (pc' := 69) rfl rfl ?_
      exact Rn.iret rfl (by decide) (⟨by rw [if_neg (fun z => z.elim g0 g1)], w, rfl, by rw [e1]; exact hr1⟩)
    · refine Rn.iconst (v := 1) (pc' := 26) rfl (by decide) rfl ?_
      refine Rn.step (pc' := 30) rfl rfl ?_
      refine Rn.step (pc' := 32) rfl rfl ?_
      refine Rn.step (pc' := 34) rfl rfl ?_
      refine Rn.ifc_eq (pc1 := 62) (pc2 := 37) rfl rfl rfl (fun h34 => absurd h34 (by decide)) (fun h34 => ?_)
      refine Rn.step (pc' := 38) rfl rfl ?_
      refine Rn.cgw (pc' := 41) rfl ho rfl ?_
      refine Rn.iconst (v := 24) (pc' := 43) rfl (by decide) rfl ?_
      refine Rn.step (pc' := 44) rfl rfl ?_
      refine Rn.iadd (pc' := 45) rfl rfl ?_
      refine Rn.cwld (k := 24 + 1) (pc' := 46) rfl ho (by decide) (by omega) ((hr1).wr 1 (by omega)) (by decide) rfl ?_
      refine Rn.step (pc' := 47) rfl rfl ?_
      refine Rn.icmp_eq (pc1 := 62) (pc2 := 50) rfl rfl rfl (fun h47 => ?_) (fun h47 => ?_)
      · refine Rn.step (pc' := 65) rfl rfl ?_
        refine Rn.step (pc' := 4) rfl rfl ?_
        have g1 : ¬ gCw (tkb t 0 b) 1 b := by rw [e0]; exact fun z => z.1 h47
        have e1 : tkn t (b + 1) = t := by
          unfold tkn tk2
          rw [if_neg (by omega), show b + 1 - 1 = b from rfl]
          have : tkb (tkb t 0 b) 1 b = tkb t 0 b := if_neg g1
          rw [this, e0]
        refine Rn.ls5 (b3 := .int 2) rfl rfl rfl (congrArg Value.int (by decide)) rfl ?_
        refine Rn.step (pc' := 5) rfl rfl ?_
        refine Rn.iconst (v := 2) (pc' := 6) rfl (by decide) rfl ?_
        refine Rn.icmp_ge (pc1 := 68) (pc2 := 9) rfl rfl rfl (fun h6 => ?_) (fun h6 => absurd (show (2 : Int32) ≤ 2 from by decide) h6)
        refine Rn.step (pc' := 69) rfl rfl ?_
        exact Rn.iret rfl (by decide) (⟨by rw [if_neg (fun z => z.elim g0 g1)], w, rfl, by rw [e1]; exact hr1⟩)
      · refine Rn.step (pc' := 51) rfl rfl ?_
        refine Rn.cgw (pc' := 54) rfl ho rfl ?_
        refine Rn.iconst (v := 24) (pc' := 56) rfl (by decide) rfl ?_
        refine Rn.step (pc' := 57) rfl rfl ?_
        refine Rn.iadd (pc' := 58) rfl rfl ?_
        refine Rn.step (pc' := 59) rfl rfl ?_
        refine Rn.cwst (k := 24 + 1) (pc' := 60) rfl ho (by decide) (by omega) (by decide) rfl ?_
        refine Rn.iconst (v := 1) (pc' := 61) rfl (by decide) rfl ?_
        refine Rn.step (pc' := 62) rfl rfl ?_
        refine Rn.step (pc' := 65) rfl rfl ?_
        refine Rn.step (pc' := 4) rfl rfl ?_
        have g1 : gCw (tkb t 0 b) 1 b := by rw [e0]; exact ⟨h47, hfit1, h22⟩
        have e1 : tkn t (b + 1) = upd (t) (46 + 3 * 1) (nI b) := by
          unfold tkn tk2
          rw [if_neg (by omega), show b + 1 - 1 = b from rfl]
          have : tkb (tkb t 0 b) 1 b = upd (tkb t 0 b) (46 + 3 * 1) (nI b) := if_pos g1
          rw [this, e0]
        refine Rn.ls5 (b3 := .int 2) rfl rfl rfl (congrArg Value.int (by decide)) rfl ?_
        refine Rn.step (pc' := 5) rfl rfl ?_
        refine Rn.iconst (v := 2) (pc' := 6) rfl (by decide) rfl ?_
        refine Rn.icmp_ge (pc1 := 68) (pc2 := 9) rfl rfl rfl (fun h6 => ?_) (fun h6 => absurd (show (2 : Int32) ≤ 2 from by decide) h6)
        refine Rn.step (pc' := 69) rfl rfl ?_
        exact Rn.iret rfl (by decide) (⟨by rw [if_pos (Or.inr g1)], upd (w) (24 + 1) (nI b), rfl, by rw [e1]; exact hr1.tkb hB (by omega) hb⟩)
  · refine Rn.iconst (v := 1) (pc' := 26) rfl (by decide) rfl ?_
    refine Rn.step (pc' := 30) rfl rfl ?_
    refine Rn.step (pc' := 32) rfl rfl ?_
    refine Rn.step (pc' := 34) rfl rfl ?_
    refine Rn.ifc_eq (pc1 := 62) (pc2 := 37) rfl rfl rfl (fun h34 => absurd h34 (by decide)) (fun h34 => ?_)
    refine Rn.step (pc' := 38) rfl rfl ?_
    refine Rn.cgw (pc' := 41) rfl ho rfl ?_
    refine Rn.iconst (v := 24) (pc' := 43) rfl (by decide) rfl ?_
    refine Rn.step (pc' := 44) rfl rfl ?_
    refine Rn.iadd (pc' := 45) rfl rfl ?_
    refine Rn.cwld (k := 24 + 0) (pc' := 46) rfl ho (by decide) (by omega) ((hr).wr 0 (by omega)) (by decide) rfl ?_
    refine Rn.step (pc' := 47) rfl rfl ?_
    refine Rn.icmp_eq (pc1 := 62) (pc2 := 50) rfl rfl rfl (fun h47 => ?_) (fun h47 => ?_)
    · refine Rn.step (pc' := 65) rfl rfl ?_
      refine Rn.step (pc' := 4) rfl rfl ?_
      have g0 : ¬ gCw t 0 b := fun z => z.1 h47
      have e0 : tkb t 0 b = t := if_neg g0
      have hr1 : WR gg Bn (t) (w) := hr
      have gw1 : WD P Bn (t) := e0 ▸ (tkb_w gw hB (show 0 < 2 by omega) hb).2
      have hfit1 : ¬ (t) 1 < (t) (10 + 6 * b + 2) := hfit
      refine Rn.ls5 (b3 := .int 1) rfl rfl rfl (congrArg Value.int (by decide)) rfl ?_
      refine Rn.step (pc' := 5) rfl rfl ?_
      refine Rn.iconst (v := 2) (pc' := 6) rfl (by decide) rfl ?_
      refine Rn.icmp_ge (pc1 := 68) (pc2 := 9) rfl rfl rfl (fun h6 => absurd h6 (show ¬ (2 : Int32) ≤ 1 from by decide)) (fun h6 => ?_)
      refine Rn.step (pc' := 10) rfl rfl ?_
      refine Rn.step (pc' := 11) rfl rfl ?_
      refine Rn.vi (pc' := 14) rfl (by decide) (by omega) rfl (rcvW ho rfl) rfl (c_W_placeOfBoot (k := 1) ho (hr1) hB (gw1.wr) (by omega)) ?_
      refine Rn.step (pc' := 15) rfl rfl ?_
      refine Rn.cgw (pc' := 18) rfl ho rfl ?_
      refine Rn.iconst (v := 0) (pc' := 19) rfl (by decide) rfl ?_
      refine Rn.step (pc' := 20) rfl rfl ?_
      refine Rn.iadd (pc' := 21) rfl rfl ?_
      refine Rn.cwld (k := b) (pc' := 22) rfl ho (by simp only [nI_lit, nI_add, pk_mul, Nat.zero_add]) (by omega) ((hr1).pl b hb) (by decide) rfl ?_
      refine Rn.icmp_ne (pc1 := 29) (pc2 := 25) rfl rfl rfl (fun h22 => ?_) (fun h22 => ?_)
      · refine Rn.iconst (v := 0) (pc' := 30) rfl (by decide) rfl ?_
        refine Rn.step (pc' := 32) rfl rfl ?_
        refine Rn.step (pc' := 34) rfl rfl ?_
        refine Rn.ifc_eq (pc1 := 62) (pc2 := 37) rfl rfl rfl (fun h34 => ?_) (fun h34 => absurd (rfl) h34)
        refine Rn.step (pc' := 65) rfl rfl ?_
        refine Rn.step (pc' := 4) rfl rfl ?_
        have g1 : ¬ gCw (tkb t 0 b) 1 b := by rw [e0]; exact fun z => h22 z.2.2
        have e1 : tkn t (b + 1) = t := by
          unfold tkn tk2
          rw [if_neg (by omega), show b + 1 - 1 = b from rfl]
          have : tkb (tkb t 0 b) 1 b = tkb t 0 b := if_neg g1
          rw [this, e0]
        refine Rn.ls5 (b3 := .int 2) rfl rfl rfl (congrArg Value.int (by decide)) rfl ?_
        refine Rn.step (pc' := 5) rfl rfl ?_
        refine Rn.iconst (v := 2) (pc' := 6) rfl (by decide) rfl ?_
        refine Rn.icmp_ge (pc1 := 68) (pc2 := 9) rfl rfl rfl (fun h6 => ?_) (fun h6 => absurd (show (2 : Int32) ≤ 2 from by decide) h6)
        refine Rn.step (pc' := 69) rfl rfl ?_
        exact Rn.iret rfl (by decide) (⟨by rw [if_neg (fun z => z.elim g0 g1)], w, rfl, by rw [e1]; exact hr1⟩)
      · refine Rn.iconst (v := 1) (pc' := 26) rfl (by decide) rfl ?_
        refine Rn.step (pc' := 30) rfl rfl ?_
        refine Rn.step (pc' := 32) rfl rfl ?_
        refine Rn.step (pc' := 34) rfl rfl ?_
        refine Rn.ifc_eq (pc1 := 62) (pc2 := 37) rfl rfl rfl (fun h34 => absurd h34 (by decide)) (fun h34 => ?_)
        refine Rn.step (pc' := 38) rfl rfl ?_
        refine Rn.cgw (pc' := 41) rfl ho rfl ?_
        refine Rn.iconst (v := 24) (pc' := 43) rfl (by decide) rfl ?_
        refine Rn.step (pc' := 44) rfl rfl ?_
        refine Rn.iadd (pc' := 45) rfl rfl ?_
        refine Rn.cwld (k := 24 + 1) (pc' := 46) rfl ho (by decide) (by omega) ((hr1).wr 1 (by omega)) (by decide) rfl ?_
        refine Rn.step (pc' := 47) rfl rfl ?_
        refine Rn.icmp_eq (pc1 := 62) (pc2 := 50) rfl rfl rfl (fun h47 => ?_) (fun h47 => ?_)
        · refine Rn.step (pc' := 65) rfl rfl ?_
          refine Rn.step (pc' := 4) rfl rfl ?_
          have g1 : ¬ gCw (tkb t 0 b) 1 b := by rw [e0]; exact fun z => z.1 h47
          have e1 : tkn t (b + 1) = t := by
            unfold tkn tk2
            rw [if_neg (by omega), show b + 1 - 1 = b from rfl]
            have : tkb (tkb t 0 b) 1 b = tkb t 0 b := if_neg g1
            rw [this, e0]
          refine Rn.ls5 (b3 := .int 2) rfl rfl rfl (congrArg Value.int (by decide)) rfl ?_
          refine Rn.step (pc' := 5) rfl rfl ?_
          refine Rn.iconst (v := 2) (pc' := 6) rfl (by decide) rfl ?_
          refine Rn.icmp_ge (pc1 := 68) (pc2 := 9) rfl rfl rfl (fun h6 => ?_) (fun h6 => absurd (show (2 : Int32) ≤ 2 from by decide) h6)
          refine Rn.step (pc' := 69) rfl rfl ?_
          exact Rn.iret rfl (by decide) (⟨by rw [if_neg (fun z => z.elim g0 g1)], w, rfl, by rw [e1]; exact hr1⟩)
        · refine Rn.step (pc' := 51) rfl rfl ?_
          refine Rn.cgw (pc' := 54) rfl ho rfl ?_
          refine Rn.iconst (v := 24) (pc' := 56) rfl (by decide) rfl ?_
          refine Rn.step (pc' := 57) rfl rfl ?_
          refine Rn.iadd (pc' := 58) rfl rfl ?_
          refine Rn.step (pc' := 59) rfl rfl ?_
          refine Rn.cwst (k := 24 + 1) (pc' := 60) rfl ho (by decide) (by omega) (by decide) rfl ?_
          refine Rn.iconst (v := 1) (pc' := 61) rfl (by decide) rfl ?_
          refine Rn.step (pc' := 62) rfl rfl ?_
          refine Rn.step (pc' := 65) rfl rfl ?_
          refine Rn.step (pc' := 4) rfl rfl ?_
          have g1 : gCw (tkb t 0 b) 1 b := by rw [e0]; exact ⟨h47, hfit1, h22⟩
          have e1 : tkn t (b + 1) = upd (t) (46 + 3 * 1) (nI b) := by
            unfold tkn tk2
            rw [if_neg (by omega), show b + 1 - 1 = b from rfl]
            have : tkb (tkb t 0 b) 1 b = upd (tkb t 0 b) (46 + 3 * 1) (nI b) := if_pos g1
            rw [this, e0]
          refine Rn.ls5 (b3 := .int 2) rfl rfl rfl (congrArg Value.int (by decide)) rfl ?_
          refine Rn.step (pc' := 5) rfl rfl ?_
          refine Rn.iconst (v := 2) (pc' := 6) rfl (by decide) rfl ?_
          refine Rn.icmp_ge (pc1 := 68) (pc2 := 9) rfl rfl rfl (fun h6 => ?_) (fun h6 => absurd (show (2 : Int32) ≤ 2 from by decide) h6)
          refine Rn.step (pc' := 69) rfl rfl ?_
          exact Rn.iret rfl (by decide) (⟨by rw [if_pos (Or.inr g1)], upd (w) (24 + 1) (nI b), rfl, by rw [e1]; exact hr1.tkb hB (by omega) hb⟩)
    · refine Rn.step (pc' := 51) rfl rfl ?_
      refine Rn.cgw (pc' := 54) rfl ho rfl ?_
      refine Rn.iconst (v := 24) (pc' := 56) rfl (by decide) rfl ?_
      refine Rn.step (pc' := 57) rfl rfl ?_
      refine Rn.iadd (pc' := 58) rfl rfl ?_
      refine Rn.step (pc' := 59) rfl rfl ?_
      refine Rn.cwst (k := 24 + 0) (pc' := 60) rfl ho (by decide) (by omega) (by decide) rfl ?_
      refine Rn.iconst (v := 1) (pc' := 61) rfl (by decide) rfl ?_
      refine Rn.step (pc' := 62) rfl rfl ?_
      refine Rn.step (pc' := 65) rfl rfl ?_
      refine Rn.step (pc' := 4) rfl rfl ?_
      have g0 : gCw t 0 b := ⟨h47, hfit, h22⟩
      have e0 : tkb t 0 b = upd t (46 + 3 * 0) (nI b) := if_pos g0
      have hr1 : WR gg Bn (upd t (46 + 3 * 0) (nI b)) (upd w (24 + 0) (nI b)) := hr.tkb hB (by omega) hb
      have gw1 : WD P Bn (upd t (46 + 3 * 0) (nI b)) := e0 ▸ (tkb_w gw hB (show 0 < 2 by omega) hb).2
      have hfit1 : ¬ (upd t (46 + 3 * 0) (nI b)) 1 < (upd t (46 + 3 * 0) (nI b)) (10 + 6 * b + 2) := by rw [upd_n _ _ (by omega), upd_n _ _ (by omega)]; exact hfit
      refine Rn.ls5 (b3 := .int 1) rfl rfl rfl (congrArg Value.int (by decide)) rfl ?_
      refine Rn.step (pc' := 5) rfl rfl ?_
      refine Rn.iconst (v := 2) (pc' := 6) rfl (by decide) rfl ?_
      refine Rn.icmp_ge (pc1 := 68) (pc2 := 9) rfl rfl rfl (fun h6 => absurd h6 (show ¬ (2 : Int32) ≤ 1 from by decide)) (fun h6 => ?_)
      refine Rn.step (pc' := 10) rfl rfl ?_
      refine Rn.step (pc' := 11) rfl rfl ?_
      refine Rn.vi (pc' := 14) rfl (by decide) (by omega) rfl (rcvW ho rfl) rfl (c_W_placeOfBoot (k := 1) ho (hr1) hB (gw1.wr) (by omega)) ?_
      refine Rn.step (pc' := 15) rfl rfl ?_
      refine Rn.cgw (pc' := 18) rfl ho rfl ?_
      refine Rn.iconst (v := 0) (pc' := 19) rfl (by decide) rfl ?_
      refine Rn.step (pc' := 20) rfl rfl ?_
      refine Rn.iadd (pc' := 21) rfl rfl ?_
      refine Rn.cwld (k := b) (pc' := 22) rfl ho (by simp only [nI_lit, nI_add, pk_mul, Nat.zero_add]) (by omega) ((hr1).pl b hb) (by decide) rfl ?_
      refine Rn.icmp_ne (pc1 := 29) (pc2 := 25) rfl rfl rfl (fun h22 => ?_) (fun h22 => ?_)
      · refine Rn.iconst (v := 0) (pc' := 30) rfl (by decide) rfl ?_
        refine Rn.step (pc' := 32) rfl rfl ?_
        refine Rn.step (pc' := 34) rfl rfl ?_
        refine Rn.ifc_eq (pc1 := 62) (pc2 := 37) rfl rfl rfl (fun h34 => ?_) (fun h34 => absurd (rfl) h34)
        refine Rn.step (pc' := 65) rfl rfl ?_
        refine Rn.step (pc' := 4) rfl rfl ?_
        have g1 : ¬ gCw (tkb t 0 b) 1 b := by rw [e0]; exact fun z => h22 z.2.2
        have e1 : tkn t (b + 1) = upd t (46 + 3 * 0) (nI b) := by
          unfold tkn tk2
          rw [if_neg (by omega), show b + 1 - 1 = b from rfl]
          have : tkb (tkb t 0 b) 1 b = tkb t 0 b := if_neg g1
          rw [this, e0]
        refine Rn.ls5 (b3 := .int 2) rfl rfl rfl (congrArg Value.int (by decide)) rfl ?_
        refine Rn.step (pc' := 5) rfl rfl ?_
        refine Rn.iconst (v := 2) (pc' := 6) rfl (by decide) rfl ?_
        refine Rn.icmp_ge (pc1 := 68) (pc2 := 9) rfl rfl rfl (fun h6 => ?_) (fun h6 => absurd (show (2 : Int32) ≤ 2 from by decide) h6)
        refine Rn.step (pc' := 69) rfl rfl ?_
        exact Rn.iret rfl (by decide) (⟨by rw [if_pos (Or.inl g0)], upd w (24 + 0) (nI b), rfl, by rw [e1]; exact hr1⟩)
      · refine Rn.iconst (v := 1) (pc' := 26) rfl (by decide) rfl ?_
        refine Rn.step (pc' := 30) rfl rfl ?_
        refine Rn.step (pc' := 32) rfl rfl ?_
        refine Rn.step (pc' := 34) rfl rfl ?_
        refine Rn.ifc_eq (pc1 := 62) (pc2 := 37) rfl rfl rfl (fun h34 => absurd h34 (by decide)) (fun h34 => ?_)
        refine Rn.step (pc' := 38) rfl rfl ?_
        refine Rn.cgw (pc' := 41) rfl ho rfl ?_
        refine Rn.iconst (v := 24) (pc' := 43) rfl (by decide) rfl ?_
        refine Rn.step (pc' := 44) rfl rfl ?_
        refine Rn.iadd (pc' := 45) rfl rfl ?_
        refine Rn.cwld (k := 24 + 1) (pc' := 46) rfl ho (by decide) (by omega) ((hr1).wr 1 (by omega)) (by decide) rfl ?_
        refine Rn.step (pc' := 47) rfl rfl ?_
        refine Rn.icmp_eq (pc1 := 62) (pc2 := 50) rfl rfl rfl (fun h47 => ?_) (fun h47 => ?_)
        · refine Rn.step (pc' := 65) rfl rfl ?_
          refine Rn.step (pc' := 4) rfl rfl ?_
          have g1 : ¬ gCw (tkb t 0 b) 1 b := by rw [e0]; exact fun z => z.1 h47
          have e1 : tkn t (b + 1) = upd t (46 + 3 * 0) (nI b) := by
            unfold tkn tk2
            rw [if_neg (by omega), show b + 1 - 1 = b from rfl]
            have : tkb (tkb t 0 b) 1 b = tkb t 0 b := if_neg g1
            rw [this, e0]
          refine Rn.ls5 (b3 := .int 2) rfl rfl rfl (congrArg Value.int (by decide)) rfl ?_
          refine Rn.step (pc' := 5) rfl rfl ?_
          refine Rn.iconst (v := 2) (pc' := 6) rfl (by decide) rfl ?_
          refine Rn.icmp_ge (pc1 := 68) (pc2 := 9) rfl rfl rfl (fun h6 => ?_) (fun h6 => absurd (show (2 : Int32) ≤ 2 from by decide) h6)
          refine Rn.step (pc' := 69) rfl rfl ?_
          exact Rn.iret rfl (by decide) (⟨by rw [if_pos (Or.inl g0)], upd w (24 + 0) (nI b), rfl, by rw [e1]; exact hr1⟩)
        · refine Rn.step (pc' := 51) rfl rfl ?_
          refine Rn.cgw (pc' := 54) rfl ho rfl ?_
          refine Rn.iconst (v := 24) (pc' := 56) rfl (by decide) rfl ?_
          refine Rn.step (pc' := 57) rfl rfl ?_
          refine Rn.iadd (pc' := 58) rfl rfl ?_
          refine Rn.step (pc' := 59) rfl rfl ?_
          refine Rn.cwst (k := 24 + 1) (pc' := 60) rfl ho (by decide) (by omega) (by decide) rfl ?_
          refine Rn.iconst (v := 1) (pc' := 61) rfl (by decide) rfl ?_
          refine Rn.step (pc' := 62) rfl rfl ?_
          refine Rn.step (pc' := 65) rfl rfl ?_
          refine Rn.step (pc' := 4) rfl rfl ?_
          have g1 : gCw (tkb t 0 b) 1 b := by rw [e0]; exact ⟨h47, hfit1, h22⟩
          have e1 : tkn t (b + 1) = upd (upd t (46 + 3 * 0) (nI b)) (46 + 3 * 1) (nI b) := by
            unfold tkn tk2
            rw [if_neg (by omega), show b + 1 - 1 = b from rfl]
            have : tkb (tkb t 0 b) 1 b = upd (tkb t 0 b) (46 + 3 * 1) (nI b) := if_pos g1
            rw [this, e0]
          refine Rn.ls5 (b3 := .int 2) rfl rfl rfl (congrArg Value.int (by decide)) rfl ?_
          refine Rn.step (pc' := 5) rfl rfl ?_
          refine Rn.iconst (v := 2) (pc' := 6) rfl (by decide) rfl ?_
          refine Rn.icmp_ge (pc1 := 68) (pc2 := 9) rfl rfl rfl (fun h6 => ?_) (fun h6 => absurd (show (2 : Int32) ≤ 2 from by decide) h6)
          refine Rn.step (pc' := 69) rfl rfl ?_
          exact Rn.iret rfl (by decide) (⟨by rw [if_pos (Or.inl g0)], upd (upd w (24 + 0) (nI b)) (24 + 1) (nI b), rfl, by rw [e1]; exact hr1.tkb hB (by omega) hb⟩)
end CM
