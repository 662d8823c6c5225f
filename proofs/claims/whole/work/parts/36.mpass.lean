/-! THE MODEL: an hour passes. -/
section MP
variable {m0 : xM} {v : Nat → Int32} {dx : Int64} {A : Nat → Nat → Int32} {LA : Nat → Nat → Int64} {s : Nat → Int32}
/-- what is told of the lane -/
abbrev WL (P Bn Fn Wn : Nat) (s : Nat → Int32) : Prop := (s 0 = nI P) ∧ (2 ≤ P) ∧ (P ≤ 10) ∧ (s 2 = nI Bn) ∧ (Bn ≤ 6) ∧ (s 3 = nI Fn) ∧ (Fn ≤ 4) ∧ (s 4 = nI Wn) ∧ (Wn ≤ 10) ∧ (∀ b, b < Bn → ∃ q, q < P ∧ s (10 + 6 * b + 1) = nI q) ∧ (∀ k, k < Wn → ∃ c, c < Bn ∧ s (60 + 4 * k) = nI c) ∧ (∀ k, k < Wn → ∃ h, h < 24 ∧ s (60 + 4 * k + 2) = nI h) ∧ (∀ q, q < P → ∃ z, z < 10 ∧ s (100 + q) = nI z)
theorem WL.p {P Bn Fn Wn : Nat} {s : Nat → Int32} (h : WL P Bn Fn Wn s) : s 0 = nI P := h.1
theorem WL.p2 {P Bn Fn Wn : Nat} {s : Nat → Int32} (h : WL P Bn Fn Wn s) : 2 ≤ P := h.2.1
theorem WL.p10 {P Bn Fn Wn : Nat} {s : Nat → Int32} (h : WL P Bn Fn Wn s) : P ≤ 10 := h.2.2.1
theorem WL.b {P Bn Fn Wn : Nat} {s : Nat → Int32} (h : WL P Bn Fn Wn s) : s 2 = nI Bn := h.2.2.2.1
theorem WL.b6 {P Bn Fn Wn : Nat} {s : Nat → Int32} (h : WL P Bn Fn Wn s) : Bn ≤ 6 := h.2.2.2.2.1
theorem WL.f {P Bn Fn Wn : Nat} {s : Nat → Int32} (h : WL P Bn Fn Wn s) : s 3 = nI Fn := h.2.2.2.2.2.1
theorem WL.f4 {P Bn Fn Wn : Nat} {s : Nat → Int32} (h : WL P Bn Fn Wn s) : Fn ≤ 4 := h.2.2.2.2.2.2.1
theorem WL.w {P Bn Fn Wn : Nat} {s : Nat → Int32} (h : WL P Bn Fn Wn s) : s 4 = nI Wn := h.2.2.2.2.2.2.2.1
theorem WL.w10 {P Bn Fn Wn : Nat} {s : Nat → Int32} (h : WL P Bn Fn Wn s) : Wn ≤ 10 := h.2.2.2.2.2.2.2.2.1
theorem WL.hm {P Bn Fn Wn : Nat} {s : Nat → Int32} (h : WL P Bn Fn Wn s) : ∀ b, b < Bn → ∃ q, q < P ∧ s (10 + 6 * b + 1) = nI q := h.2.2.2.2.2.2.2.2.2.1
theorem WL.wb {P Bn Fn Wn : Nat} {s : Nat → Int32} (h : WL P Bn Fn Wn s) : ∀ k, k < Wn → ∃ c, c < Bn ∧ s (60 + 4 * k) = nI c := h.2.2.2.2.2.2.2.2.2.2.1
theorem WL.wh {P Bn Fn Wn : Nat} {s : Nat → Int32} (h : WL P Bn Fn Wn s) : ∀ k, k < Wn → ∃ h, h < 24 ∧ s (60 + 4 * k + 2) = nI h := h.2.2.2.2.2.2.2.2.2.2.2.1
theorem WL.we {P Bn Fn Wn : Nat} {s : Nat → Int32} (h : WL P Bn Fn Wn s) : ∀ q, q < P → ∃ z, z < 10 ∧ s (100 + q) = nI z := h.2.2.2.2.2.2.2.2.2.2.2.2
/-- what changes by the hour -/
abbrev WD (P Bn : Nat) (s : Nat → Int32) : Prop := (∃ h, h < 24 ∧ s 5 = nI h) ∧ (∀ b, b < Bn → ∃ q, q < P ∧ s (10 + 6 * b) = nI q) ∧ (∀ b, b < Bn → ∃ q, q < 100 ∧ s (10 + 6 * b + 3) = nI q ∧ (q < 60 ∨ s (10 + 6 * b + 4) = 1)) ∧ (∀ b, b < Bn → s (10 + 6 * b + 4) = 0 ∨ s (10 + 6 * b + 4) = 1) ∧ (∀ k, k < 2 → s (46 + 3 * k) = -1 ∨ ∃ c, c < Bn ∧ s (46 + 3 * k) = nI c)
theorem WD.hr {P Bn : Nat} {s : Nat → Int32} (h : WD P Bn s) : ∃ h, h < 24 ∧ s 5 = nI h := h.1
theorem WD.pl {P Bn : Nat} {s : Nat → Int32} (h : WD P Bn s) : ∀ b, b < Bn → ∃ q, q < P ∧ s (10 + 6 * b) = nI q := h.2.1
theorem WD.ch {P Bn : Nat} {s : Nat → Int32} (h : WD P Bn s) : ∀ b, b < Bn → ∃ q, q < 100 ∧ s (10 + 6 * b + 3) = nI q ∧ (q < 60 ∨ s (10 + 6 * b + 4) = 1) := h.2.2.1
theorem WD.fz {P Bn : Nat} {s : Nat → Int32} (h : WD P Bn s) : ∀ b, b < Bn → s (10 + 6 * b + 4) = 0 ∨ s (10 + 6 * b + 4) = 1 := h.2.2.2.1
theorem WD.wr {P Bn : Nat} {s : Nat → Int32} (h : WD P Bn s) : ∀ k, k < 2 → s (46 + 3 * k) = -1 ∨ ∃ c, c < Bn ∧ s (46 + 3 * k) = nI c := h.2.2.2.2
def fxc (i : Nat) : Prop := i < 5 ∨ i = 8 ∨ i = 9 ∨ (10 ≤ i ∧ i < 46 ∧ ((i - 10) % 6 = 1 ∨ (i - 10) % 6 = 2)) ∨ 52 ≤ i
/-- no cell of the lane changes -/
def FX (s t : Nat → Int32) : Prop := ∀ i, fxc i → t i = s i
theorem FX.refl (s : Nat → Int32) : FX s s := fun _ _ => rfl
theorem FX.trans {s t u : Nat → Int32} (h : FX s t) (g : FX t u) : FX s u := fun i hi => (g i hi).trans (h i hi)
theorem FX.up (s : Nat → Int32) (k : Nat) (x : Int32) (h : ¬ fxc k) : FX s (upd s k x) := fun i hi => upd_n s x (fun e => h (e ▸ hi))
theorem WL.fx {P Bn Fn Wn : Nat} {s t : Nat → Int32} (h : WL P Bn Fn Wn s) (g : FX s t) : WL P Bn Fn Wn t := ⟨
  (g 0 (by unfold fxc; omega)).trans h.p,
  h.p2,
  h.p10,
  (g 2 (by unfold fxc; omega)).trans h.b,
  h.b6,
  (g 3 (by unfold fxc; omega)).trans h.f,
  h.f4,
  (g 4 (by unfold fxc; omega)).trans h.w,
  h.w10,
  (fun b hb => by
    obtain ⟨q, hq, e⟩ := h.hm b hb
    have := h.b6
    exact ⟨q, hq, (g _ (by unfold fxc; omega)).trans e⟩),
  (fun k hk => by
    obtain ⟨q, hq, e⟩ := h.wb k hk
    exact ⟨q, hq, (g _ (by unfold fxc; omega)).trans e⟩),
  (fun k hk => by
    obtain ⟨q, hq, e⟩ := h.wh k hk
    exact ⟨q, hq, (g _ (by unfold fxc; omega)).trans e⟩),
  (fun k hk => by
    obtain ⟨q, hq, e⟩ := h.we k hk
    exact ⟨q, hq, (g _ (by unfold fxc; omega)).trans e⟩)⟩
def wdc (i : Nat) : Prop := i = 5 ∨ (10 ≤ i ∧ i < 46 ∧ ((i - 10) % 6 = 0 ∨ (i - 10) % 6 = 3 ∨ (i - 10) % 6 = 4)) ∨ i = 46 ∨ i = 49
theorem WD.ext {P Bn : Nat} {s t : Nat → Int32} (h : WD P Bn s) (hB : Bn ≤ 6) (g : ∀ i, wdc i → t i = s i) : WD P Bn t := ⟨
  (by
    rw [g 5 (by unfold wdc; omega)]
    exact h.hr),
  (fun b hb => by
    rw [g _ (by unfold wdc; omega)]
    exact h.pl b hb),
  (fun b hb => by
    rw [g _ (by unfold wdc; omega), g _ (by unfold wdc; omega)]
    exact h.ch b hb),
  (fun b hb => by
    rw [g _ (by unfold wdc; omega)]
    exact h.fz b hb),
  (fun k hk => by
    rw [g _ (by unfold wdc; omega)]
    exact h.wr k hk)⟩
theorem WD.up {P Bn : Nat} {s : Nat → Int32} (h : WD P Bn s) (hB : Bn ≤ 6) (k : Nat) (x : Int32) (hk : ¬ wdc k) : WD P Bn (upd s k x) := h.ext hB (fun i hi => upd_n s x (fun e => hk (e ▸ hi)))
theorem WL.okb {P Bn Fn Wn b : Nat} {v s : Nat → Int32} (h : WL P Bn Fn Wn s) (g : WD P Bn s) (hv : v 24 = 0 ∨ v 24 = 1) (hb : b < Bn) : mOkB v s Bn Fn Wn b := by
  refine ⟨h.b, h.b6, h.f, h.f4, h.w, h.w10, Nat.lt_of_lt_of_le hb h.b6, hv, ?_, fun k hk => ?_⟩
  · obtain ⟨q, hq, e⟩ := g.pl b hb
    exact ⟨q, Nat.lt_of_lt_of_le hq h.p10, e⟩
  · rcases g.wr k hk with e | ⟨c, hc, e⟩
    · exact Or.inl (by rw [e]; decide)
    · exact Or.inr ⟨c, Nat.lt_of_lt_of_le hc h.b6, e⟩
theorem mPy_fx {P Bn Fn Wn : Nat} {s : Nat → Int32} (h : WL P Bn Fn Wn s) : FX s (mPy s Wn).1 := fun i hi => mPy_out (fun k hk => by
  obtain ⟨c, hc, e⟩ := h.wb k hk
  exact ⟨c, Nat.lt_of_lt_of_le hc h.b6, e⟩) Wn (Nat.le_refl _) i (fun b hb e => by unfold fxc at hi; omega)
theorem mPy_wd {P Bn Fn Wn : Nat} {s : Nat → Int32} (h : WL P Bn Fn Wn s) (g : WD P Bn s) : WD P Bn (mPy s Wn).1 := g.ext h.b6 (fun i hi => mPy_out (fun k hk => by
  obtain ⟨c, hc, e⟩ := h.wb k hk
  exact ⟨c, Nat.lt_of_lt_of_le hc h.b6, e⟩) Wn (Nat.le_refl _) i (fun b hb e => by unfold wdc at hi; omega))
theorem mWo_out (s : Nat → Int32) (x wear : Int32) : ∀ k, ∀ i, (∀ j, j < k → i ≠ 48 + 3 * j) → mWo s x wear k i = s i
  | 0, _, _ => rfl
  | k + 1, i, h => by
    have ih := mWo_out s x wear k i (fun j hj => h j (by omega))
    rw [mWo_s]
    split
    · rw [upd_n _ _ (by have := h k (by omega); omega)]
      exact ih
    · exact ih
theorem mWl_fx {P Bn Fn Wn b : Nat} {s : Nat → Int32} (h : WL P Bn Fn Wn s) (hb : b < Bn) (wear : Int32) (way : Int64) : FX s (mWl s b wear way) := by
  have := h.b6
  unfold mWl
  split
  · exact FX.refl s
  · split
    · refine FX.trans (FX.up s (10 + 6 * b) _ (by unfold fxc; omega)) (fun i hi => mWo_out _ _ _ 2 i (fun j hj e => by unfold fxc at hi; omega))
    · exact FX.refl s
theorem pl_in {x : Int32} {P : Nat} (hP : P ≤ 10) (h1 : ¬ x < 0) (h2 : ¬ nI P ≤ x) : ∃ q, q < P ∧ x = nI q := by
  obtain ⟨q, hq, rfl⟩ := nI_of h1
  exact ⟨q, (nI_ltI hq (by omega)).mp (Int32.not_le.mp h2), rfl⟩
theorem mWl_wd {P Bn Fn Wn b : Nat} {s : Nat → Int32} (h : WL P Bn Fn Wn s) (g : WD P Bn s) (hb : b < Bn) (wear : Int32) (way : Int64) : WD P Bn (mWl s b wear way) := by
  have hb6 := h.b6
  unfold mWl
  split
  · exact g
  · split
    · rename_i hh
      refine WD.ext (s := upd s (10 + 6 * b) (s (10 + 6 * b + 0) + sg64 way)) ?_ h.b6 (fun i hi => mWo_out _ _ _ 2 i (fun j hj e => by unfold wdc at hi; omega))
      obtain ⟨⟨h1, h2⟩, -⟩ := hh
      rw [h.p] at h2
      have hq := pl_in h.p10 h1 h2
      refine ⟨?_, fun c hc => ?_, fun c hc => ?_, fun c hc => ?_, fun k hk => ?_⟩
      · rw [upd_n _ _ (by omega)]
        exact g.hr
      · by_cases e : c = b
        · subst e
          rw [upd_s]
          exact hq
        · rw [upd_n _ _ (by omega)]
          exact g.pl c hc
      · rw [upd_n _ _ (by omega), upd_n _ _ (by omega)]
        exact g.ch c hc
      · rw [upd_n _ _ (by omega)]
        exact g.fz c hc
      · rw [upd_n _ _ (by omega)]
        exact g.wr k hk
    · exact g
theorem mCl_in (n : Int32) : ∃ q, q < 100 ∧ mCl n = nI q := by
  unfold mCl
  split
  · exact ⟨0, by omega, rfl⟩
  · split
    · exact ⟨99, by omega, rfl⟩
    · rename_i h1 h2
      obtain ⟨q, hq, e⟩ := nI_of2 (M := 99) (n := 99) (by decide) h1 (Int32.not_lt.mp h2)
      exact ⟨q, by omega, e⟩
theorem mCh_fx {P Bn Fn Wn b : Nat} {s : Nat → Int32} (h : WL P Bn Fn Wn s) (hb : b < Bn) (sec much : Int32) : FX s (mCh s sec much b) := by
  have := h.b6
  unfold mCh
  split
  · exact FX.up s _ _ (by unfold fxc; omega)
  · exact (FX.up s _ _ (by unfold fxc; omega)).trans (FX.up _ _ _ (by unfold fxc; omega))
theorem mCh_wd {P Bn Fn Wn b : Nat} {s : Nat → Int32} (h : WL P Bn Fn Wn s) (g : WD P Bn s) (hb : b < Bn) (sec much : Int32) : WD P Bn (mCh s sec much b) := by
  have hb6 := h.b6
  obtain ⟨q, hq, eq⟩ := mCl_in (mCn s sec much b)
  unfold mCh
  rw [eq]
  split
  · rename_i h6
    refine ⟨?_, fun c hc => ?_, fun c hc => ?_, fun c hc => ?_, fun k hk => ?_⟩
    · rw [upd_n _ _ (by omega)]
      exact g.hr
    · rw [upd_n _ _ (by omega)]
      exact g.pl c hc
    · by_cases e : c = b
      · subst e
        rw [upd_s, upd_n _ _ (by omega)]
        refine ⟨q, hq, rfl, ?_⟩
        rcases h6 with h6 | h6
        · exact Or.inl (by
            have := (nI_ltI (a := q) (b := 60) (by omega) (by omega)).mp h6
            exact this)
        · exact Or.inr h6
      · rw [upd_n _ _ (by omega), upd_n _ _ (by omega)]
        exact g.ch c hc
    · rw [upd_n _ _ (by omega)]
      exact g.fz c hc
    · rw [upd_n _ _ (by omega)]
      exact g.wr k hk
  · refine ⟨?_, fun c hc => ?_, fun c hc => ?_, fun c hc => ?_, fun k hk => ?_⟩
    · rw [upd_n _ _ (by omega), upd_n _ _ (by omega)]
      exact g.hr
    · rw [upd_n _ _ (by omega), upd_n _ _ (by omega)]
      exact g.pl c hc
    · by_cases e : c = b
      · subst e
        rw [upd_n _ _ (by omega), upd_s, upd_s]
        exact ⟨q, hq, rfl, Or.inr rfl⟩
      · rw [upd_n _ _ (by omega), upd_n _ _ (by omega), upd_n _ _ (by omega), upd_n _ _ (by omega)]
        exact g.ch c hc
    · by_cases e : c = b
      · subst e
        rw [upd_s]
        exact Or.inr rfl
      · rw [upd_n _ _ (by omega), upd_n _ _ (by omega)]
        exact g.fz c hc
    · rw [upd_n _ _ (by omega), upd_n _ _ (by omega)]
      exact g.wr k hk
def gHm (s : Nat → Int32) (b : Nat) : Nat → Int32 := upd (upd (upd s (10 + 6 * b) (s (10 + 6 * b + 1))) (10 + 6 * b + 3) 0) (10 + 6 * b + 4) 0
theorem gHm_fx {b : Nat} (s : Nat → Int32) (hb : b < 6) : FX s (gHm s b) := (FX.up s _ _ (by unfold fxc; omega)).trans ((FX.up _ _ _ (by unfold fxc; omega)).trans (FX.up _ _ _ (by unfold fxc; omega)))
theorem gHm_wd {P Bn Fn Wn b : Nat} {s : Nat → Int32} (h : WL P Bn Fn Wn s) (g : WD P Bn s) (hb : b < Bn) : WD P Bn (gHm s b) := by
  have hb6 := h.b6
  unfold gHm
  refine ⟨?_, fun c hc => ?_, fun c hc => ?_, fun c hc => ?_, fun k hk => ?_⟩
  · rw [upd_n _ _ (by omega), upd_n _ _ (by omega), upd_n _ _ (by omega)]
    exact g.hr
  · rw [upd_n _ _ (by omega), upd_n _ _ (by omega)]
    by_cases e : c = b
    · subst e
      rw [upd_s]
      exact h.hm c hc
    · rw [upd_n _ _ (by omega)]
      exact g.pl c hc
  · by_cases e : c = b
    · subst e
      rw [upd_n _ _ (by omega), upd_s, upd_s]
      exact ⟨0, by omega, rfl, Or.inl (by omega)⟩
    · rw [upd_n _ _ (by omega), upd_n _ _ (by omega), upd_n _ _ (by omega), upd_n _ _ (by omega), upd_n _ _ (by omega), upd_n _ _ (by omega)]
      exact g.ch c hc
  · by_cases e : c = b
    · subst e
      rw [upd_s]
      exact Or.inl rfl
    · rw [upd_n _ _ (by omega), upd_n _ _ (by omega), upd_n _ _ (by omega)]
      exact g.fz c hc
  · rw [upd_n _ _ (by omega), upd_n _ _ (by omega), upd_n _ _ (by omega)]
    exact g.wr k hk

/-- what an hour depends on beside what is said: the rule in force, the rules, who has a second pair, a frost drawn -/
abbrev xEv : Type := (Int32) × (xRl) × (Int32) × (Int32) × (Nat) × (Nat) × (Nat)
abbrev xEv.fo (E : xEv) : Int32 := E.1
abbrev xEv.rl (E : xEv) : xRl := E.2.1
abbrev xEv.sec (E : xEv) : Int32 := E.2.2.1
abbrev xEv.fd (E : xEv) : Int32 := E.2.2.2.1
abbrev xEv.Bn (E : xEv) : Nat := E.2.2.2.2.1
abbrev xEv.Fn (E : xEv) : Nat := E.2.2.2.2.2.1
abbrev xEv.Wn (E : xEv) : Nat := E.2.2.2.2.2.2
def pWk (E : xEv) (much : Int32) (s : Nat → Int32) : Nat → Nat → Int32
  | 0 => s
  | k + 1 => mWl (pWk E much s k) k much (mWy E.fo E.rl (pWk E much s k) E.sec E.fd E.Bn E.Fn E.Wn k)
theorem pWk_s (E : xEv) (much : Int32) (s : Nat → Int32) (k : Nat) : pWk E much s (k + 1) = mWl (pWk E much s k) k much (mWy E.fo E.rl (pWk E much s k) E.sec E.fd E.Bn E.Fn E.Wn k) := rfl
def pCh (sec much : Int32) (s : Nat → Int32) (z : Int32) : Nat → (Nat → Int32) × Int32
  | 0 => (s, z)
  | k + 1 => (mCh (pCh sec much s z k).1 sec much k, mCz (pCh sec much s z k).1 sec much k (pCh sec much s z k).2)
theorem pCh_s (sec much : Int32) (s : Nat → Int32) (z : Int32) (k : Nat) : pCh sec much s z (k + 1) = (mCh (pCh sec much s z k).1 sec much k, mCz (pCh sec much s z k).1 sec much k (pCh sec much s z k).2) := rfl
def pHm (s : Nat → Int32) : Nat → Nat → Int32
  | 0 => s
  | k + 1 => gHm (pHm s k) k
theorem pHm_s (s : Nat → Int32) (k : Nat) : pHm s (k + 1) = gHm (pHm s k) k := rfl
theorem pWk_w {P : Nat} {E : xEv} {s : Nat → Int32} (much : Int32) (h : WL P E.Bn E.Fn E.Wn s) (g : WD P E.Bn s) : ∀ k, k ≤ E.Bn → FX s (pWk E much s k) ∧ WD P E.Bn (pWk E much s k)
  | 0, _ => ⟨FX.refl s, g⟩
  | k + 1, hk => by
    obtain ⟨f1, g1⟩ := pWk_w much h g k (by omega)
    rw [pWk_s]
    exact ⟨f1.trans (mWl_fx (h.fx f1) (by omega) _ _), mWl_wd (h.fx f1) g1 (by omega) _ _⟩
theorem pCh_w {P Bn Fn Wn : Nat} {s : Nat → Int32} (sec much z : Int32) (h : WL P Bn Fn Wn s) (g : WD P Bn s) : ∀ k, k ≤ Bn → FX s (pCh sec much s z k).1 ∧ WD P Bn (pCh sec much s z k).1
  | 0, _ => ⟨FX.refl s, g⟩
  | k + 1, hk => by
    obtain ⟨f1, g1⟩ := pCh_w sec much z h g k (by omega)
    rw [pCh_s]
    exact ⟨f1.trans (mCh_fx (h.fx f1) (by omega) _ _), mCh_wd (h.fx f1) g1 (by omega) _ _⟩
theorem pHm_w {P Bn Fn Wn : Nat} {s : Nat → Int32} (h : WL P Bn Fn Wn s) (g : WD P Bn s) : ∀ k, k ≤ Bn → FX s (pHm s k) ∧ WD P Bn (pHm s k)
  | 0, _ => ⟨FX.refl s, g⟩
  | k + 1, hk => by
    obtain ⟨f1, g1⟩ := pHm_w h g k (by omega)
    have := h.b6
    rw [pHm_s]
    exact ⟨f1.trans (gHm_fx _ (by omega)), gHm_wd (h.fx f1) g1 (by omega)⟩
def eMu (E : xEv) (s : Nat → Int32) : Int32 := if mFr s E.fd E.Fn = 0 then 1 else 2
/-- ahead of the clock -/
def pB (E : xEv) (s : Nat → Int32) (z : Int32) : (Nat → Int32) × Int32 := pCh E.sec (eMu E s) (pWk E (eMu E s) (mPy s E.Wn).1 E.Bn) z E.Bn
def pTn (Bn : Nat) (s : Nat → Int32) : Nat → Int32 := if upd s 5 (s 5 + 1) 5 < 24 then upd s 5 (s 5 + 1) else pHm (upd (upd (upd s 5 (s 5 + 1)) 5 0) 6 (upd (upd s 5 (s 5 + 1)) 5 0 6 + 1)) Bn
/-- an hour: what is said then, who became frozen, what is earned -/
def mPs (E : xEv) (s : Nat → Int32) (z : Int32) : (Nat → Int32) × Int32 × Int32 := (pTn E.Bn (pB E s z).1, (pB E s z).2, (mPy s E.Wn).2)
theorem pB_w {P : Nat} {E : xEv} {s : Nat → Int32} (z : Int32) (h : WL P E.Bn E.Fn E.Wn s) (g : WD P E.Bn s) : FX s (pB E s z).1 ∧ WD P E.Bn (pB E s z).1 := by
  have f1 := mPy_fx h
  have g1 := mPy_wd h g
  obtain ⟨f2, g2⟩ := pWk_w (eMu E s) (h.fx f1) g1 E.Bn (Nat.le_refl _)
  obtain ⟨f3, g3⟩ := pCh_w E.sec (eMu E s) z ((h.fx f1).fx f2) g2 E.Bn (Nat.le_refl _)
  exact ⟨f1.trans (f2.trans f3), g3⟩
theorem WD.h5 {P Bn : Nat} {s : Nat → Int32} (g : WD P Bn s) (hB : Bn ≤ 6) {h : Nat} (hh : h < 24) : WD P Bn (upd s 5 (nI h)) := by
  refine ⟨⟨h, hh, upd_s _ _ _⟩, fun c hc => ?_, fun c hc => ?_, fun c hc => ?_, fun k hk => ?_⟩
  · rw [upd_n _ _ (by omega)]
    exact g.pl c hc
  · rw [upd_n _ _ (by omega), upd_n _ _ (by omega)]
    exact g.ch c hc
  · rw [upd_n _ _ (by omega)]
    exact g.fz c hc
  · rw [upd_n _ _ (by omega)]
    exact g.wr k hk
theorem pTn_w {P Bn Fn Wn : Nat} {s : Nat → Int32} (h : WL P Bn Fn Wn s) (g : WD P Bn s) : FX s (pTn Bn s) ∧ WD P Bn (pTn Bn s) := by
  obtain ⟨q, hq, e⟩ := g.hr
  have hb6 := h.b6
  unfold pTn
  rw [upd_s, upd_u, upd_n _ _ (show 6 ≠ 5 by decide), e, nI_1]
  split
  · rename_i h5
    have : q + 1 < 24 := (nI_ltI (a := q + 1) (b := 24) (by omega) (by omega)).mp h5
    exact ⟨FX.up s _ _ (by unfold fxc; omega), g.h5 h.b6 this⟩
  · have f1 : FX s (upd (upd s 5 0) 6 (s 6 + 1)) := (FX.up s 5 _ (by unfold fxc; omega)).trans (FX.up _ _ _ (by unfold fxc; omega))
    obtain ⟨f2, g2⟩ := pHm_w (h.fx f1) ((g.h5 h.b6 (show 0 < 24 by omega)).up h.b6 6 (s 6 + 1) (by unfold wdc; omega)) Bn (Nat.le_refl _)
    exact ⟨f1.trans f2, g2⟩
theorem mPs_w {P : Nat} {E : xEv} {s : Nat → Int32} (z : Int32) (h : WL P E.Bn E.Fn E.Wn s) (g : WD P E.Bn s) : FX s (mPs E s z).1 ∧ WD P E.Bn (mPs E s z).1 := by
  obtain ⟨f1, g1⟩ := pB_w z h g
  obtain ⟨f2, g2⟩ := pTn_w (h.fx f1) g1
  exact ⟨f1.trans f2, g2⟩
theorem ME.same {z : Int32} {m : xM} {a : Nat} (e : v a = z) (h : ME m0 v dx A LA s m) : ME m0 (upd v a z) dx A LA s m := by
  rw [← e, upd_id]
  exact h
theorem upd_cm (f : Nat → Int32) {i j : Nat} (h : i ≠ j) (x y : Int32) : upd (upd f i x) j y = upd (upd f j y) i x := by
  funext k
  by_cases h1 : k = i
  · subst h1
    simp [upd, h]
  · by_cases h2 : k = j
    · subst h2
      simp [upd, h1]
    · simp [upd, h1, h2]

theorem l_M_pass3 {d P Bn Fn Wn : Nat} {much all : Int32} (hl : WL P Bn Fn Wn s) (hw : WD P Bn s) (hd : 1 ≤ d) (k : Nat) (hk : k ≤ Bn) {m : xM} (hm : ME m0 v dx A LA (pHm s k) m) : Rn d j_M_passes 109 [.ref 50, .int much, .int all, .int (nI k)] [] m (fun r m2 => r = some (.int all) ∧ ME m0 v dx A LA (pHm s Bn) m2) := by
  obtain ⟨n, f, g, rfl⟩ := hm
  have hs2 : (pHm s k) 2 = nI Bn := ((pHm_w hl hw k hk).1 2 (by unfold fxc; omega)).trans hl.b
  have hb6 := hl.b6
  refine Rn.step (pc' := 110) rfl rfl ?_
  refine Rn.step (pc' := 111) rfl rfl ?_
  refine Rn.getf (pc' := 114) rfl rfl rfl rfl rfl ?_
  refine Rn.iconst (v := 2) (pc' := 115) rfl (by decide) rfl ?_
  refine Rn.sald (k := 2) (pc' := 116) rfl rfl (by simp only [nI_lit, nI_add, pk_mul]) (by omega) (by decide) rfl ?_
  refine Rn.icmp_ge (pc1 := 130) (pc2 := 119) rfl rfl rfl (fun h116 => ?_) (fun h116 => ?_)
  · have hk2 : k = Bn := by
      have := (nI_leI (by omega) (by omega)).mp (hs2 ▸ h116)
      omega
    subst hk2
    refine Rn.step (pc' := 131) rfl rfl ?_
    exact Rn.iret rfl (rfl) (⟨rfl, n, f, g, rfl⟩)
  · have hk2 : k < Bn := by
      have := mt (nI_leI (a := Bn) (b := k) (by omega) (by omega)).mpr (hs2 ▸ h116)
      omega
    refine Rn.step (pc' := 120) rfl rfl ?_
    refine Rn.step (pc' := 121) rfl rfl ?_
    refine Rn.vv (pc' := 124) rfl (by decide) (by omega) rfl rfl rfl (c_M_goesHome k (by omega)) ?_
    refine Rn.step (pc' := 127) rfl rfl ?_
    refine Rn.step (pc' := 109) rfl rfl ?_
    exact Rn.ls4 rfl rfl rfl (congrArg Value.int (nI_i1 k)) (l_M_pass3 hl hw hd (k + 1) (by omega) ⟨n, f, g, rfl⟩)
termination_by Bn - k
theorem l_M_pass2 {d P Bn Fn Wn : Nat} {much all : Int32} (hl : WL P Bn Fn Wn s) (hw : WD P Bn s) (hd : 4 ≤ d) (k : Nat) (hk : k ≤ Bn) {m : xM} (hm : ME m0 (upd v 25 (pCh (v 23) much s (v 25) k).2) dx A LA (pCh (v 23) much s (v 25) k).1 m) : Rn d j_M_passes 44 [.ref 50, .int much, .int all, .int (nI k)] [] m (fun r m2 => r = some (.int all) ∧ ME m0 (upd v 25 (pCh (v 23) much s (v 25) Bn).2) dx A LA (pTn Bn (pCh (v 23) much s (v 25) Bn).1) m2) := by
  obtain ⟨n, f, g, rfl⟩ := hm
  have hs2 : ((pCh (v 23) much s (v 25) k).1) 2 = nI Bn := ((pCh_w (v 23) much (v 25) hl hw k hk).1 2 (by unfold fxc; omega)).trans hl.b
  have hb6 := hl.b6
  refine Rn.step (pc' := 45) rfl rfl ?_
  refine Rn.step (pc' := 46) rfl rfl ?_
  refine Rn.getf (pc' := 49) rfl rfl rfl rfl rfl ?_
  refine Rn.iconst (v := 2) (pc' := 50) rfl (by decide) rfl ?_
  refine Rn.sald (k := 2) (pc' := 51) rfl rfl (by simp only [nI_lit, nI_add, pk_mul]) (by omega) (by decide) rfl ?_
  refine Rn.icmp_ge (pc1 := 66) (pc2 := 54) rfl rfl rfl (fun h51 => ?_) (fun h51 => ?_)
  · have hk2 : k = Bn := by
      have := (nI_leI (by omega) (by omega)).mp (hs2 ▸ h51)
      omega
    subst hk2
    refine Rn.step (pc' := 67) rfl rfl ?_
    refine Rn.getf (pc' := 70) rfl rfl rfl rfl rfl ?_
    refine Rn.iconst (v := 5) (pc' := 71) rfl (by decide) rfl ?_
    refine Rn.step (pc' := 72) rfl rfl ?_
    refine Rn.sald (k := 5) (pc' := 73) rfl rfl (by simp only [nI_lit, nI_add, pk_mul]) (by omega) (by decide) rfl ?_
    refine Rn.iconst (v := 1) (pc' := 74) rfl (by decide) rfl ?_
    refine Rn.iadd (pc' := 75) rfl rfl ?_
    refine Rn.sast (k := 5) (pc' := 76) rfl rfl (by simp only [nI_lit, nI_add, pk_mul]) (by omega) (by decide) rfl ?_
    refine Rn.step (pc' := 77) rfl rfl ?_
    refine Rn.getf (pc' := 80) rfl rfl rfl rfl rfl ?_
    refine Rn.iconst (v := 5) (pc' := 81) rfl (by decide) rfl ?_
    refine Rn.sald (k := 5) (pc' := 82) rfl rfl (by simp only [nI_lit, nI_add, pk_mul]) (by omega) (by decide) rfl ?_
    refine Rn.iconst (v := 24) (pc' := 84) rfl (by decide) rfl ?_
    refine Rn.icmp_ge (pc1 := 89) (pc2 := 87) rfl rfl rfl (fun h84 => ?_) (fun h84 => ?_)
    · refine Rn.step (pc' := 90) rfl rfl ?_
      refine Rn.getf (pc' := 93) rfl rfl rfl rfl rfl ?_
      refine Rn.iconst (v := 5) (pc' := 94) rfl (by decide) rfl ?_
      refine Rn.iconst (v := 0) (pc' := 95) rfl (by decide) rfl ?_
      refine Rn.sast (k := 5) (pc' := 96) rfl rfl (by simp only [nI_lit, nI_add, pk_mul]) (by omega) (by decide) rfl ?_
      refine Rn.step (pc' := 97) rfl rfl ?_
      refine Rn.getf (pc' := 100) rfl rfl rfl rfl rfl ?_
      refine Rn.iconst (v := 6) (pc' := 102) rfl (by decide) rfl ?_
      refine Rn.step (pc' := 103) rfl rfl ?_
      refine Rn.sald (k := 6) (pc' := 104) rfl rfl (by simp only [nI_lit, nI_add, pk_mul]) (by omega) (by decide) rfl ?_
      refine Rn.iconst (v := 1) (pc' := 105) rfl (by decide) rfl ?_
      refine Rn.iadd (pc' := 106) rfl rfl ?_
      refine Rn.sast (k := 6) (pc' := 107) rfl rfl (by simp only [nI_lit, nI_add, pk_mul]) (by omega) (by decide) rfl ?_
      refine Rn.iconst (v := 0) (pc' := 108) rfl (by decide) rfl ?_
      refine Rn.step (pc' := 109) rfl rfl ?_
      refine (l_M_pass3 (v := upd v 25 (pCh (v 23) much s (v 25) k).2) ((hl.fx (pCh_w (v 23) much (v 25) hl hw k hk).1).fx ((FX.up _ 5 _ (by unfold fxc; omega)).trans ((FX.up _ 5 _ (by unfold fxc; omega)).trans (FX.up _ 6 _ (by unfold fxc; omega))))) ?_ (by omega) 0 (by omega) ⟨n, f, g, rfl⟩).conseq ?_
      · exact ((upd_u _ _ _ _).symm ▸ (pCh_w (v 23) much (v 25) hl hw k hk).2.h5 hl.b6 (show 0 < 24 by omega)).up hl.b6 _ _ (by unfold wdc; omega)
      · rintro r m2 ⟨rfl, h9⟩
        refine ⟨rfl, ?_⟩
        rw [pTn, if_neg (Int32.not_lt.mpr h84)]
        exact h9
    · refine Rn.step (pc' := 88) rfl rfl ?_
      exact Rn.iret rfl (rfl) (⟨rfl, n, f, g, by rw [pTn, if_pos (Int32.not_le.mp h84)]⟩)
  · have hk2 : k < Bn := by
      have := mt (nI_leI (a := Bn) (b := k) (by omega) (by omega)).mpr (hs2 ▸ h51)
      omega
    refine Rn.step (pc' := 55) rfl rfl ?_
    refine Rn.step (pc' := 56) rfl rfl ?_
    refine Rn.step (pc' := 57) rfl rfl ?_
    refine Rn.vv (pc' := 60) rfl (by decide) (by omega) rfl rfl rfl (c_M_chills (by omega) k much (by omega) ((pCh_w (v 23) much (v 25) hl hw k hk).2.pl k hk2 |>.elim fun q hq => ⟨q, Nat.lt_of_lt_of_le hq.1 hl.p10, hq.2⟩)) ?_
    refine Rn.step (pc' := 63) rfl rfl ?_
    refine Rn.step (pc' := 44) rfl rfl ?_
    refine Rn.mm ?_ (Rn.ls4 rfl rfl rfl (congrArg Value.int (nI_i1 k)) (l_M_pass2 hl hw hd (k + 1) (by omega) ⟨n, f, g, rfl⟩))
    rw [pCh_s]
    show MM _ _ _ _ _ = MM _ _ _ _ _
    rw [upd_cm _ (show 18 ≠ 25 by decide), upd_u]
    rfl
termination_by Bn - k
abbrev evf (v : Nat → Int32) (rl : xRl) (Bn Fn Wn : Nat) : xEv := (v 21, rl, v 23, v 24, Bn, Fn, Wn)
theorem l_M_pass1 {d P Bn Fn Wn : Nat} {rl : xRl} {much all : Int32} (hl : WL P Bn Fn Wn s) (hw : WD P Bn s) (hv : v 24 = 0 ∨ v 24 = 1) (hru : mRu v A rl) (hd : 5 ≤ d) (k : Nat) (hk : k ≤ Bn) {m : xM} (hm : ME m0 v dx A LA (pWk (evf v rl Bn Fn Wn) much s k) m) : Rn d j_M_passes 20 [.ref 50, .int much, .int all, .int (nI k)] [] m (fun r m2 => r = some (.int all) ∧ ME m0 (upd v 25 (pCh (v 23) much (pWk (evf v rl Bn Fn Wn) much s Bn) (v 25) Bn).2) dx A LA (pTn Bn (pCh (v 23) much (pWk (evf v rl Bn Fn Wn) much s Bn) (v 25) Bn).1) m2) := by
  have hm0 := hm
  obtain ⟨n, f, g, rfl⟩ := hm0
  have hs2 : (pWk (evf v rl Bn Fn Wn) much s k) 2 = nI Bn := ((pWk_w (E := evf v rl Bn Fn Wn) much hl hw k hk).1 2 (by unfold fxc; omega)).trans hl.b
  have hb6 := hl.b6
  refine Rn.step (pc' := 21) rfl rfl ?_
  refine Rn.step (pc' := 22) rfl rfl ?_
  refine Rn.getf (pc' := 25) rfl rfl rfl rfl rfl ?_
  refine Rn.iconst (v := 2) (pc' := 26) rfl (by decide) rfl ?_
  refine Rn.sald (k := 2) (pc' := 27) rfl rfl (by simp only [nI_lit, nI_add, pk_mul]) (by omega) (by decide) rfl ?_
  refine Rn.icmp_ge (pc1 := 42) (pc2 := 30) rfl rfl rfl (fun h27 => ?_) (fun h27 => ?_)
  · have hk2 : k = Bn := by
      have := (nI_leI (by omega) (by omega)).mp (hs2 ▸ h27)
      omega
    subst hk2
    refine Rn.iconst (v := 0) (pc' := 43) rfl (by decide) rfl ?_
    refine Rn.step (pc' := 44) rfl rfl ?_
    exact l_M_pass2 (hl.fx (pWk_w (E := evf v rl k Fn Wn) much hl hw k hk).1) (pWk_w (E := evf v rl k Fn Wn) much hl hw k hk).2 (by omega) 0 (by omega) (ME.same rfl hm)
  · have hk2 : k < Bn := by
      have := mt (nI_leI (a := Bn) (b := k) (by omega) (by omega)).mpr (hs2 ▸ h27)
      omega
    refine Rn.step (pc' := 31) rfl rfl ?_
    refine Rn.step (pc' := 32) rfl rfl ?_
    refine Rn.step (pc' := 33) rfl rfl ?_
    refine Rn.callV (pc' := 36) rfl (by decide) (by omega) rfl rfl rfl (c_M_walks (((hl.fx (pWk_w (E := evf v rl Bn Fn Wn) much hl hw k hk).1).okb (pWk_w (E := evf v rl Bn Fn Wn) much hl hw k hk).2 hv hk2)) hru (by omega) ⟨n, f, g, rfl⟩) (fun r_ m_ hc_ => ?_)
    obtain ⟨rfl, hm⟩ := hc_
    refine Rn.step (pc' := 39) rfl rfl ?_
    refine Rn.step (pc' := 20) rfl rfl ?_
    exact Rn.ls4 rfl rfl rfl (congrArg Value.int (nI_i1 k)) (l_M_pass1 hl hw hv hru hd (k + 1) (by omega) hm)
termination_by Bn - k
theorem w_p12 {d P Bn Fn Wn n : Nat} {f g : Nat → Int64} {rl : xRl} {much : Int32} (hl : WL P Bn Fn Wn s) (hw : WD P Bn s) (hv : v 24 = 0 ∨ v 24 = 1) (hru : mRu v A rl) (hd : 5 ≤ d) : Rn d j_M_passes 12 [.ref 50, xb, xb, xb] [.int much] (MT m0 v dx A (va_up LA 59 g) s n f) (fun r m2 => r = some (.int (mPy s Wn).2) ∧ ME m0 (upd v 25 (pCh (v 23) much (pWk (evf v rl Bn Fn Wn) much (mPy s Wn).1 Bn) (v 25) Bn).2) dx A LA (pTn Bn (pCh (v 23) much (pWk (evf v rl Bn Fn Wn) much (mPy s Wn).1 Bn) (v 25) Bn).1) m2) := by
  refine Rn.step (pc' := 13) rfl rfl ?_
  refine Rn.step (pc' := 14) rfl rfl ?_
  refine Rn.vi (pc' := 17) rfl (by decide) (by omega) rfl rfl rfl (c_M_earnsNow (Wn := Wn) hl.w hl.w10 (fun k hk => (hl.wb k hk).elim fun c hc => ⟨c, Nat.lt_of_lt_of_le hc.1 hl.b6, hc.2⟩)) ?_
  refine Rn.step (pc' := 18) rfl rfl ?_
  refine Rn.iconst (v := 0) (pc' := 19) rfl (by decide) rfl ?_
  refine Rn.step (pc' := 20) rfl rfl ?_
  exact l_M_pass1 (hl.fx (mPy_fx hl)) (mPy_wd hl hw) hv hru (by omega) 0 (by omega) ⟨n, f, g, rfl⟩
theorem c_M_passes {d P Bn Fn Wn : Nat} {rl : xRl} (hl : WL P Bn Fn Wn s) (hw : WD P Bn s) (hv : v 24 = 0 ∨ v 24 = 1) (hru : mRu v A rl) (hd : 5 ≤ d) {m : xM} (hm : ME m0 v dx A LA s m) : Cl d j_M_passes [.ref 50] m (fun r m2 => r = some (.int (mPs (evf v rl Bn Fn Wn) s (v 25)).2.2) ∧ ME m0 (upd v 25 (mPs (evf v rl Bn Fn Wn) s (v 25)).2.1) dx A LA (mPs (evf v rl Bn Fn Wn) s (v 25)).1 m2) := by
  show Rn d j_M_passes 0 _ _ _ _
  obtain ⟨n, f, g, rfl⟩ := hm
  refine Rn.step (pc' := 1) rfl rfl ?_
  refine Rn.vi (pc' := 4) rfl (by decide) (by omega) rfl rfl rfl (c_M_isFrost hl.f hl.f4 hv) ?_
  refine Rn.ifc_eq (pc1 := 11) (pc2 := 7) rfl rfl rfl (fun h4 => ?_) (fun h4 => ?_)
  · refine Rn.iconst (v := 1) (pc' := 12) rfl (by decide) rfl ?_
    have e : eMu (evf v rl Bn Fn Wn) s = 1 := if_pos h4
    have := w_p12 (m0 := m0) (dx := dx) (A := A) (LA := LA) (n := n) (f := f) (g := g) (much := eMu (evf v rl Bn Fn Wn) s) hl hw hv hru hd
    rw [e] at this
    exact (this.conseq (fun r m2 hq => by rw [← e] at hq; exact hq))
  · refine Rn.iconst (v := 2) (pc' := 8) rfl (by decide) rfl ?_
    refine Rn.step (pc' := 12) rfl rfl ?_
    have e : eMu (evf v rl Bn Fn Wn) s = 2 := if_neg h4
    have := w_p12 (m0 := m0) (dx := dx) (A := A) (LA := LA) (n := n) (f := f) (g := g) (much := eMu (evf v rl Bn Fn Wn) s) hl hw hv hru hd
    rw [e] at this
    exact (this.conseq (fun r m2 hq => by rw [← e] at hq; exact hq))
/-- hours, n of them -/
def mPo (E : xEv) (s : Nat → Int32) (z : Int32) : Nat → (Nat → Int32) × Int32 × Int32
  | 0 => (s, z, 0)
  | n + 1 => ((mPs E (mPo E s z n).1 (mPo E s z n).2.1).1, (mPs E (mPo E s z n).1 (mPo E s z n).2.1).2.1, (mPo E s z n).2.2 + (mPs E (mPo E s z n).1 (mPo E s z n).2.1).2.2)
theorem mPo_s (E : xEv) (s : Nat → Int32) (z : Int32) (n : Nat) : mPo E s z (n + 1) = ((mPs E (mPo E s z n).1 (mPo E s z n).2.1).1, (mPs E (mPo E s z n).1 (mPo E s z n).2.1).2.1, (mPo E s z n).2.2 + (mPs E (mPo E s z n).1 (mPo E s z n).2.1).2.2) := rfl
theorem mPo_w {P : Nat} {E : xEv} {s : Nat → Int32} (z : Int32) (h : WL P E.Bn E.Fn E.Wn s) (g : WD P E.Bn s) : ∀ n, FX s (mPo E s z n).1 ∧ WD P E.Bn (mPo E s z n).1
  | 0 => ⟨FX.refl s, g⟩
  | n + 1 => by
    obtain ⟨f1, g1⟩ := mPo_w z h g n
    obtain ⟨f2, g2⟩ := mPs_w (mPo E s z n).2.1 (h.fx f1) g1
    exact ⟨f1.trans f2, g2⟩
theorem l_M_passesOn {d P Bn Fn Wn N : Nat} {rl : xRl} (hl : WL P Bn Fn Wn s) (hw : WD P Bn s) (hv : v 24 = 0 ∨ v 24 = 1) (hru : mRu v A rl) (hd : 6 ≤ d) (hN : N < 1000) (k : Nat) (hk : k ≤ N) {m : xM} (hm : ME m0 (upd v 25 (mPo (evf v rl Bn Fn Wn) s (v 25) k).2.1) dx A LA (mPo (evf v rl Bn Fn Wn) s (v 25) k).1 m) : Rn d j_M_passesOn 4 [.ref 50, .int (nI N), .int (mPo (evf v rl Bn Fn Wn) s (v 25) k).2.2, .int (nI k)] [] m (fun r m2 => r = some (.int (mPo (evf v rl Bn Fn Wn) s (v 25) N).2.2) ∧ ME m0 (upd v 25 (mPo (evf v rl Bn Fn Wn) s (v 25) N).2.1) dx A LA (mPo (evf v rl Bn Fn Wn) s (v 25) N).1 m2) := by
  have hm0 := hm
  obtain ⟨n, f, g, rfl⟩ := hm0
  refine Rn.step (pc' := 5) rfl rfl ?_
  refine Rn.step (pc' := 6) rfl rfl ?_
  refine Rn.icmp_ge (pc1 := 22) (pc2 := 9) rfl rfl rfl (fun h6 => ?_) (fun h6 => ?_)
  · have hk2 : k = N := by
      have := (nI_leI (by omega) (by omega)).mp h6
      omega
    subst hk2
    refine Rn.step (pc' := 23) rfl rfl ?_
    exact Rn.iret rfl (rfl) (⟨rfl, hm⟩)
  · have hk2 : k < N := by
      have := mt (nI_leI (a := N) (b := k) (by omega) (by omega)).mpr h6
      omega
    refine Rn.step (pc' := 10) rfl rfl ?_
    refine Rn.step (pc' := 11) rfl rfl ?_
    refine Rn.callV (pc' := 14) rfl (by decide) (by omega) rfl rfl rfl (c_M_passes (v := upd v 25 (mPo (evf v rl Bn Fn Wn) s (v 25) k).2.1) (hl.fx (mPo_w (E := (evf v rl Bn Fn Wn)) (v 25) hl hw k).1) (mPo_w (E := (evf v rl Bn Fn Wn)) (v 25) hl hw k).2 hv hru (by omega) hm) (fun r_ m_ hc_ => ?_)
    obtain ⟨rfl, hm⟩ := hc_
    refine Rn.iadd (pc' := 15) rfl rfl ?_
    refine Rn.step (pc' := 16) rfl rfl ?_
    refine Rn.step (pc' := 19) rfl rfl ?_
    refine Rn.step (pc' := 4) rfl rfl ?_
    exact Rn.ls4 rfl rfl rfl (congrArg Value.int (nI_i1 k)) (l_M_passesOn hl hw hv hru hd hN (k + 1) (by omega) (by rw [upd_u] at hm; exact hm))
termination_by N - k
theorem c_M_passesOn {d P Bn Fn Wn N : Nat} {rl : xRl} (hl : WL P Bn Fn Wn s) (hw : WD P Bn s) (hv : v 24 = 0 ∨ v 24 = 1) (hru : mRu v A rl) (hd : 6 ≤ d) (hN : N < 1000) {m : xM} (hm : ME m0 v dx A LA s m) : Cl d j_M_passesOn [.ref 50, .int (nI N)] m (fun r m2 => r = some (.int (mPo (evf v rl Bn Fn Wn) s (v 25) N).2.2) ∧ ME m0 (upd v 25 (mPo (evf v rl Bn Fn Wn) s (v 25) N).2.1) dx A LA (mPo (evf v rl Bn Fn Wn) s (v 25) N).1 m2) := by
  show Rn d j_M_passesOn 0 _ _ _ _
  refine Rn.iconst (v := 0) (pc' := 1) rfl (by decide) rfl ?_
  refine Rn.step (pc' := 2) rfl rfl ?_
  refine Rn.iconst (v := 0) (pc' := 3) rfl (by decide) rfl ?_
  refine Rn.step (pc' := 4) rfl rfl ?_
  exact l_M_passesOn hl hw hv hru hd hN 0 (by omega) (ME.same rfl hm)
end MP
