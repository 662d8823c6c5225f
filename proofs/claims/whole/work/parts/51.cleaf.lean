/-! THE CLASS: what its rows have to do with what the model said; its smallest methods. -/
section CA
variable {m0 : xM} {F I : Nat → Nat → Int32} {L : Nat → Nat → Int64} {R : Nat → Nat → Option Nat} {H : Value} {s w : Nat → Int32} {o : Nat} {gg : Prop}
/-- a lane of the class's is the model's -/
abbrev LG (P Bn Fn Wn : Nat) (s f a1 a2 a3 a4 a5 : Nat → Int32) : Prop := (f 6 = s 0) ∧ (f 7 = s 1) ∧ (f 8 = s 8) ∧ (f 9 = s 9) ∧ (f 10 = s 2) ∧ (f 11 = s 3) ∧ (f 12 = s 4) ∧ (∀ q, q < P → a1 q = s (100 + q)) ∧ (∀ b, b < Bn → a2 b = s (10 + 6 * b + 1)) ∧ (∀ b, b < Bn → a3 b = s (10 + 6 * b + 2)) ∧ (∀ i, i < 2 * Fn → a4 i = s (52 + i)) ∧ (∀ i, i < 4 * Wn → a5 i = s (60 + i))
theorem LG.p {P Bn Fn Wn : Nat} {s f a1 a2 a3 a4 a5 : Nat → Int32} (h : LG P Bn Fn Wn s f a1 a2 a3 a4 a5) : f 6 = s 0 := h.1
theorem LG.sz {P Bn Fn Wn : Nat} {s f a1 a2 a3 a4 a5 : Nat → Int32} (h : LG P Bn Fn Wn s f a1 a2 a3 a4 a5) : f 7 = s 1 := h.2.1
theorem LG.so {P Bn Fn Wn : Nat} {s f a1 a2 a3 a4 a5 : Nat → Int32} (h : LG P Bn Fn Wn s f a1 a2 a3 a4 a5) : f 8 = s 8 := h.2.2.1
theorem LG.bo {P Bn Fn Wn : Nat} {s f a1 a2 a3 a4 a5 : Nat → Int32} (h : LG P Bn Fn Wn s f a1 a2 a3 a4 a5) : f 9 = s 9 := h.2.2.2.1
theorem LG.b {P Bn Fn Wn : Nat} {s f a1 a2 a3 a4 a5 : Nat → Int32} (h : LG P Bn Fn Wn s f a1 a2 a3 a4 a5) : f 10 = s 2 := h.2.2.2.2.1
theorem LG.f {P Bn Fn Wn : Nat} {s f a1 a2 a3 a4 a5 : Nat → Int32} (h : LG P Bn Fn Wn s f a1 a2 a3 a4 a5) : f 11 = s 3 := h.2.2.2.2.2.1
theorem LG.wn {P Bn Fn Wn : Nat} {s f a1 a2 a3 a4 a5 : Nat → Int32} (h : LG P Bn Fn Wn s f a1 a2 a3 a4 a5) : f 12 = s 4 := h.2.2.2.2.2.2.1
theorem LG.we {P Bn Fn Wn : Nat} {s f a1 a2 a3 a4 a5 : Nat → Int32} (h : LG P Bn Fn Wn s f a1 a2 a3 a4 a5) : ∀ q, q < P → a1 q = s (100 + q) := h.2.2.2.2.2.2.2.1
theorem LG.hm {P Bn Fn Wn : Nat} {s f a1 a2 a3 a4 a5 : Nat → Int32} (h : LG P Bn Fn Wn s f a1 a2 a3 a4 a5) : ∀ b, b < Bn → a2 b = s (10 + 6 * b + 1) := h.2.2.2.2.2.2.2.2.1
theorem LG.si {P Bn Fn Wn : Nat} {s f a1 a2 a3 a4 a5 : Nat → Int32} (h : LG P Bn Fn Wn s f a1 a2 a3 a4 a5) : ∀ b, b < Bn → a3 b = s (10 + 6 * b + 2) := h.2.2.2.2.2.2.2.2.2.1
theorem LG.fr {P Bn Fn Wn : Nat} {s f a1 a2 a3 a4 a5 : Nat → Int32} (h : LG P Bn Fn Wn s f a1 a2 a3 a4 a5) : ∀ i, i < 2 * Fn → a4 i = s (52 + i) := h.2.2.2.2.2.2.2.2.2.2.1
theorem LG.wa {P Bn Fn Wn : Nat} {s f a1 a2 a3 a4 a5 : Nat → Int32} (h : LG P Bn Fn Wn s f a1 a2 a3 a4 a5) : ∀ i, i < 4 * Wn → a5 i = s (60 + i) := h.2.2.2.2.2.2.2.2.2.2.2
abbrev LR (P Bn Fn Wn : Nat) (s : Nat → Int32) (F I : Nat → Nat → Int32) : Prop := LG P Bn Fn Wn s (F 17) (I 18) (I 19) (I 20) (I 21) (I 22)
theorem up_ne {α : Type} (A : Nat → α) {k j : Nat} (x : α) (h : j ≠ k) : va_up A k x j = A j := by simp only [va_up, if_neg h]
theorem isW_ne {o : Nat} (h : isW o) : 18 ≠ o + 1 ∧ 19 ≠ o + 1 ∧ 20 ≠ o + 1 ∧ 21 ≠ o + 1 ∧ 22 ≠ o + 1 := by
  unfold isW at h
  omega
theorem LR.v {P Bn Fn Wn : Nat} {s : Nat → Int32} {F I : Nat → Nat → Int32} (h : LR P Bn Fn Wn s F I) {o : Nat} (ho : isW o) (w : Nat → Int32) : LR P Bn Fn Wn s F (va_up I (o + 1) w) := by
  obtain ⟨h1, h2, h3, h4, h5⟩ := isW_ne ho
  unfold LR
  rw [up_ne I w h1, up_ne I w h2, up_ne I w h3, up_ne I w h4, up_ne I w h5]
  exact h
theorem LR.fx {P Bn Fn Wn : Nat} {s t : Nat → Int32} {F I : Nat → Nat → Int32} (h : LR P Bn Fn Wn s F I) (hB : Bn ≤ 6) (g : FX s t) : LR P Bn Fn Wn t F I := ⟨
  h.p.trans (g 0 (by unfold fxc; omega)).symm, h.sz.trans (g 1 (by unfold fxc; omega)).symm, h.so.trans (g 8 (by unfold fxc; omega)).symm, h.bo.trans (g 9 (by unfold fxc; omega)).symm, h.b.trans (g 2 (by unfold fxc; omega)).symm, h.f.trans (g 3 (by unfold fxc; omega)).symm, h.wn.trans (g 4 (by unfold fxc; omega)).symm,
  fun q hq => (h.we q hq).trans (g _ (by unfold fxc; omega)).symm, fun b hb => (h.hm b hb).trans (g _ (by unfold fxc; omega)).symm, fun b hb => (h.si b hb).trans (g _ (by unfold fxc; omega)).symm, fun i hi => (h.fr i hi).trans (g _ (by unfold fxc; omega)).symm, fun i hi => (h.wa i hi).trans (g _ (by unfold fxc; omega)).symm⟩
/-- the places of the wants are places -/
def WX (P Wn : Nat) (s : Nat → Int32) : Prop := ∀ k, k < Wn → ∃ q, q < P ∧ s (60 + 4 * k + 1) = nI q
theorem WX.fx {P Wn : Nat} {s t : Nat → Int32} (h : WX P Wn s) (g : FX s t) : WX P Wn t := fun k hk => by
  obtain ⟨q, h1, h2⟩ := h k hk
  exact ⟨q, h1, (g _ (by unfold fxc; omega)).trans h2⟩
/-- a world of the class's is the model's -/
abbrev WR (gg : Prop) (Bn : Nat) (s w : Nat → Int32) : Prop := (∀ b, b < Bn → w b = s (10 + 6 * b)) ∧ (∀ b, b < Bn → w (6 + b) = s (10 + 6 * b + 3)) ∧ (∀ b, b < Bn → w (12 + b) = s (10 + 6 * b + 4)) ∧ (∀ b, b < Bn → w (18 + b) = s (10 + 6 * b + 5)) ∧ (∀ k, k < 2 → w (24 + k) = s (46 + 3 * k)) ∧ (∀ k, k < 2 → s (46 + 3 * k) < 0 → w (26 + k) = s (46 + 3 * k + 1)) ∧ (∀ k, k < 2 → w (28 + k) = s (46 + 3 * k + 2)) ∧ (w 30 = s 5) ∧ (w 31 = s 6) ∧ (gg → w 32 = s 7) ∧ (∀ b, Bn ≤ b → b < 6 → w (6 + b) = 0 ∧ w (18 + b) = 0)
theorem WR.pl {gg : Prop} {Bn : Nat} {s w : Nat → Int32} (h : WR gg Bn s w) : ∀ b, b < Bn → w b = s (10 + 6 * b) := h.1
theorem WR.ch {gg : Prop} {Bn : Nat} {s w : Nat → Int32} (h : WR gg Bn s w) : ∀ b, b < Bn → w (6 + b) = s (10 + 6 * b + 3) := h.2.1
theorem WR.fz {gg : Prop} {Bn : Nat} {s w : Nat → Int32} (h : WR gg Bn s w) : ∀ b, b < Bn → w (12 + b) = s (10 + 6 * b + 4) := h.2.2.1
theorem WR.ea {gg : Prop} {Bn : Nat} {s w : Nat → Int32} (h : WR gg Bn s w) : ∀ b, b < Bn → w (18 + b) = s (10 + 6 * b + 5) := h.2.2.2.1
theorem WR.wr {gg : Prop} {Bn : Nat} {s w : Nat → Int32} (h : WR gg Bn s w) : ∀ k, k < 2 → w (24 + k) = s (46 + 3 * k) := h.2.2.2.2.1
theorem WR.li {gg : Prop} {Bn : Nat} {s w : Nat → Int32} (h : WR gg Bn s w) : ∀ k, k < 2 → s (46 + 3 * k) < 0 → w (26 + k) = s (46 + 3 * k + 1) := h.2.2.2.2.2.1
theorem WR.wo {gg : Prop} {Bn : Nat} {s w : Nat → Int32} (h : WR gg Bn s w) : ∀ k, k < 2 → w (28 + k) = s (46 + 3 * k + 2) := h.2.2.2.2.2.2.1
theorem WR.h {gg : Prop} {Bn : Nat} {s w : Nat → Int32} (h : WR gg Bn s w) : w 30 = s 5 := h.2.2.2.2.2.2.2.1
theorem WR.d {gg : Prop} {Bn : Nat} {s w : Nat → Int32} (h : WR gg Bn s w) : w 31 = s 6 := h.2.2.2.2.2.2.2.2.1
theorem WR.sp {gg : Prop} {Bn : Nat} {s w : Nat → Int32} (h : WR gg Bn s w) : gg → w 32 = s 7 := h.2.2.2.2.2.2.2.2.2.1
theorem WR.z {gg : Prop} {Bn : Nat} {s w : Nat → Int32} (h : WR gg Bn s w) : ∀ b, Bn ≤ b → b < 6 → w (6 + b) = 0 ∧ w (18 + b) = 0 := h.2.2.2.2.2.2.2.2.2.2
theorem WR.uPl {gg : Prop} {Bn : Nat} {s w : Nat → Int32} (h : WR gg Bn s w) (hB : Bn ≤ 6) {b : Nat} (hb : b < Bn) (x : Int32) : WR gg Bn (upd s (10 + 6 * b) x) (upd w (b) x) := by
  refine ⟨fun c hc => ?_, fun c hc => ?_, fun c hc => ?_, fun c hc => ?_, fun c hc => ?_, fun c hc hl => ?_, fun c hc => ?_, ?_, ?_, fun hgg => ?_, fun c h1 h2 => ?_⟩
  · by_cases e : c = b
    · first
      | exact absurd e (by omega)
      | rw [show 10 + 6 * c = 10 + 6 * b by omega, show c = b from e, upd_s, upd_s]
    · rw [upd_n _ _ e, upd_n _ _ (by omega)]
      exact h.pl c hc
  · by_cases e : 6 + c = b
    · first
      | exact absurd e (by omega)
      | rw [show 10 + 6 * c + 3 = 10 + 6 * b by omega, show 6 + c = b from e, upd_s, upd_s]
    · rw [upd_n _ _ e, upd_n _ _ (by omega)]
      exact h.ch c hc
  · by_cases e : 12 + c = b
    · first
      | exact absurd e (by omega)
      | rw [show 10 + 6 * c + 4 = 10 + 6 * b by omega, show 12 + c = b from e, upd_s, upd_s]
    · rw [upd_n _ _ e, upd_n _ _ (by omega)]
      exact h.fz c hc
  · by_cases e : 18 + c = b
    · first
      | exact absurd e (by omega)
      | rw [show 10 + 6 * c + 5 = 10 + 6 * b by omega, show 18 + c = b from e, upd_s, upd_s]
    · rw [upd_n _ _ e, upd_n _ _ (by omega)]
      exact h.ea c hc
  · by_cases e : 24 + c = b
    · first
      | exact absurd e (by omega)
      | rw [show 46 + 3 * c = 10 + 6 * b by omega, show 24 + c = b from e, upd_s, upd_s]
    · rw [upd_n _ _ e, upd_n _ _ (by omega)]
      exact h.wr c hc
  · by_cases e : 26 + c = b
    · first
      | exact absurd e (by omega)
      | rw [show 46 + 3 * c + 1 = 10 + 6 * b by omega, e, upd_s, upd_s]
    · rw [upd_n _ _ e, upd_n _ _ (by omega)]
      by_cases e2 : 46 + 3 * c = 10 + 6 * b
      · exact absurd e2 (by omega)
      · rw [upd_n _ _ e2] at hl
        exact h.li c hc hl
  · by_cases e : 28 + c = b
    · first
      | exact absurd e (by omega)
      | rw [show 46 + 3 * c + 2 = 10 + 6 * b by omega, show 28 + c = b from e, upd_s, upd_s]
    · rw [upd_n _ _ e, upd_n _ _ (by omega)]
      exact h.wo c hc
  · by_cases e : 30 = b
    · first
      | exact absurd e (by omega)
      | rw [show 5 = 10 + 6 * b by omega, show 30 = b from e, upd_s, upd_s]
    · rw [upd_n _ _ e, upd_n _ _ (by omega)]
      exact h.h
  · by_cases e : 31 = b
    · first
      | exact absurd e (by omega)
      | rw [show 6 = 10 + 6 * b by omega, show 31 = b from e, upd_s, upd_s]
    · rw [upd_n _ _ e, upd_n _ _ (by omega)]
      exact h.d
  · by_cases e : 32 = b
    · first
      | exact absurd e (by omega)
      | rw [show 7 = 10 + 6 * b by omega, show 32 = b from e, upd_s, upd_s]
    · rw [upd_n _ _ e, upd_n _ _ (by omega)]
      exact h.sp hgg
  · rw [upd_n _ _ (by omega), upd_n _ _ (by omega)]
    exact h.z c h1 h2
theorem WR.uCh {gg : Prop} {Bn : Nat} {s w : Nat → Int32} (h : WR gg Bn s w) (hB : Bn ≤ 6) {b : Nat} (hb : b < Bn) (x : Int32) : WR gg Bn (upd s (10 + 6 * b + 3) x) (upd w (6 + b) x) := by
  refine ⟨fun c hc => ?_, fun c hc => ?_, fun c hc => ?_, fun c hc => ?_, fun c hc => ?_, fun c hc hl => ?_, fun c hc => ?_, ?_, ?_, fun hgg => ?_, fun c h1 h2 => ?_⟩
  · by_cases e : c = 6 + b
    · first
      | exact absurd e (by omega)
      | rw [show 10 + 6 * c = 10 + 6 * b + 3 by omega, show c = 6 + b from e, upd_s, upd_s]
    · rw [upd_n _ _ e, upd_n _ _ (by omega)]
      exact h.pl c hc
  · by_cases e : 6 + c = 6 + b
    · first
      | exact absurd e (by omega)
      | rw [show 10 + 6 * c + 3 = 10 + 6 * b + 3 by omega, show 6 + c = 6 + b from e, upd_s, upd_s]
    · rw [upd_n _ _ e, upd_n _ _ (by omega)]
      exact h.ch c hc
  · by_cases e : 12 + c = 6 + b
    · first
      | exact absurd e (by omega)
      | rw [show 10 + 6 * c + 4 = 10 + 6 * b + 3 by omega, show 12 + c = 6 + b from e, upd_s, upd_s]
    · rw [upd_n _ _ e, upd_n _ _ (by omega)]
      exact h.fz c hc
  · by_cases e : 18 + c = 6 + b
    · first
      | exact absurd e (by omega)
      | rw [show 10 + 6 * c + 5 = 10 + 6 * b + 3 by omega, show 18 + c = 6 + b from e, upd_s, upd_s]
    · rw [upd_n _ _ e, upd_n _ _ (by omega)]
      exact h.ea c hc
  · by_cases e : 24 + c = 6 + b
    · first
      | exact absurd e (by omega)
      | rw [show 46 + 3 * c = 10 + 6 * b + 3 by omega, show 24 + c = 6 + b from e, upd_s, upd_s]
    · rw [upd_n _ _ e, upd_n _ _ (by omega)]
      exact h.wr c hc
  · by_cases e : 26 + c = 6 + b
    · first
      | exact absurd e (by omega)
      | rw [show 46 + 3 * c + 1 = 10 + 6 * b + 3 by omega, e, upd_s, upd_s]
    · rw [upd_n _ _ e, upd_n _ _ (by omega)]
      by_cases e2 : 46 + 3 * c = 10 + 6 * b + 3
      · exact absurd e2 (by omega)
      · rw [upd_n _ _ e2] at hl
        exact h.li c hc hl
  · by_cases e : 28 + c = 6 + b
    · first
      | exact absurd e (by omega)
      | rw [show 46 + 3 * c + 2 = 10 + 6 * b + 3 by omega, show 28 + c = 6 + b from e, upd_s, upd_s]
    · rw [upd_n _ _ e, upd_n _ _ (by omega)]
      exact h.wo c hc
  · by_cases e : 30 = 6 + b
    · first
      | exact absurd e (by omega)
      | rw [show 5 = 10 + 6 * b + 3 by omega, show 30 = 6 + b from e, upd_s, upd_s]
    · rw [upd_n _ _ e, upd_n _ _ (by omega)]
      exact h.h
  · by_cases e : 31 = 6 + b
    · first
      | exact absurd e (by omega)
      | rw [show 6 = 10 + 6 * b + 3 by omega, show 31 = 6 + b from e, upd_s, upd_s]
    · rw [upd_n _ _ e, upd_n _ _ (by omega)]
      exact h.d
  · by_cases e : 32 = 6 + b
    · first
      | exact absurd e (by omega)
      | rw [show 7 = 10 + 6 * b + 3 by omega, show 32 = 6 + b from e, upd_s, upd_s]
    · rw [upd_n _ _ e, upd_n _ _ (by omega)]
      exact h.sp hgg
  · rw [upd_n _ _ (by omega), upd_n _ _ (by omega)]
    exact h.z c h1 h2
theorem WR.uFz {gg : Prop} {Bn : Nat} {s w : Nat → Int32} (h : WR gg Bn s w) (hB : Bn ≤ 6) {b : Nat} (hb : b < Bn) (x : Int32) : WR gg Bn (upd s (10 + 6 * b + 4) x) (upd w (12 + b) x) := by
  refine ⟨fun c hc => ?_, fun c hc => ?_, fun c hc => ?_, fun c hc => ?_, fun c hc => ?_, fun c hc hl => ?_, fun c hc => ?_, ?_, ?_, fun hgg => ?_, fun c h1 h2 => ?_⟩
  · by_cases e : c = 12 + b
    · first
      | exact absurd e (by omega)
      | rw [show 10 + 6 * c = 10 + 6 * b + 4 by omega, show c = 12 + b from e, upd_s, upd_s]
    · rw [upd_n _ _ e, upd_n _ _ (by omega)]
      exact h.pl c hc
  · by_cases e : 6 + c = 12 + b
    · first
      | exact absurd e (by omega)
      | rw [show 10 + 6 * c + 3 = 10 + 6 * b + 4 by omega, show 6 + c = 12 + b from e, upd_s, upd_s]
    · rw [upd_n _ _ e, upd_n _ _ (by omega)]
      exact h.ch c hc
  · by_cases e : 12 + c = 12 + b
    · first
      | exact absurd e (by omega)
      | rw [show 10 + 6 * c + 4 = 10 + 6 * b + 4 by omega, show 12 + c = 12 + b from e, upd_s, upd_s]
    · rw [upd_n _ _ e, upd_n _ _ (by omega)]
      exact h.fz c hc
  · by_cases e : 18 + c = 12 + b
    · first
      | exact absurd e (by omega)
      | rw [show 10 + 6 * c + 5 = 10 + 6 * b + 4 by omega, show 18 + c = 12 + b from e, upd_s, upd_s]
    · rw [upd_n _ _ e, upd_n _ _ (by omega)]
      exact h.ea c hc
  · by_cases e : 24 + c = 12 + b
    · first
      | exact absurd e (by omega)
      | rw [show 46 + 3 * c = 10 + 6 * b + 4 by omega, show 24 + c = 12 + b from e, upd_s, upd_s]
    · rw [upd_n _ _ e, upd_n _ _ (by omega)]
      exact h.wr c hc
  · by_cases e : 26 + c = 12 + b
    · first
      | exact absurd e (by omega)
      | rw [show 46 + 3 * c + 1 = 10 + 6 * b + 4 by omega, e, upd_s, upd_s]
    · rw [upd_n _ _ e, upd_n _ _ (by omega)]
      by_cases e2 : 46 + 3 * c = 10 + 6 * b + 4
      · exact absurd e2 (by omega)
      · rw [upd_n _ _ e2] at hl
        exact h.li c hc hl
  · by_cases e : 28 + c = 12 + b
    · first
      | exact absurd e (by omega)
      | rw [show 46 + 3 * c + 2 = 10 + 6 * b + 4 by omega, show 28 + c = 12 + b from e, upd_s, upd_s]
    · rw [upd_n _ _ e, upd_n _ _ (by omega)]
      exact h.wo c hc
  · by_cases e : 30 = 12 + b
    · first
      | exact absurd e (by omega)
      | rw [show 5 = 10 + 6 * b + 4 by omega, show 30 = 12 + b from e, upd_s, upd_s]
    · rw [upd_n _ _ e, upd_n _ _ (by omega)]
      exact h.h
  · by_cases e : 31 = 12 + b
    · first
      | exact absurd e (by omega)
      | rw [show 6 = 10 + 6 * b + 4 by omega, show 31 = 12 + b from e, upd_s, upd_s]
    · rw [upd_n _ _ e, upd_n _ _ (by omega)]
      exact h.d
  · by_cases e : 32 = 12 + b
    · first
      | exact absurd e (by omega)
      | rw [show 7 = 10 + 6 * b + 4 by omega, show 32 = 12 + b from e, upd_s, upd_s]
    · rw [upd_n _ _ e, upd_n _ _ (by omega)]
      exact h.sp hgg
  · rw [upd_n _ _ (by omega), upd_n _ _ (by omega)]
    exact h.z c h1 h2
theorem WR.uEa {gg : Prop} {Bn : Nat} {s w : Nat → Int32} (h : WR gg Bn s w) (hB : Bn ≤ 6) {b : Nat} (hb : b < Bn) (x : Int32) : WR gg Bn (upd s (10 + 6 * b + 5) x) (upd w (18 + b) x) := by
  refine ⟨fun c hc => ?_, fun c hc => ?_, fun c hc => ?_, fun c hc => ?_, fun c hc => ?_, fun c hc hl => ?_, fun c hc => ?_, ?_, ?_, fun hgg => ?_, fun c h1 h2 => ?_⟩
  · by_cases e : c = 18 + b
    · first
      | exact absurd e (by omega)
      | rw [show 10 + 6 * c = 10 + 6 * b + 5 by omega, show c = 18 + b from e, upd_s, upd_s]
    · rw [upd_n _ _ e, upd_n _ _ (by omega)]
      exact h.pl c hc
  · by_cases e : 6 + c = 18 + b
    · first
      | exact absurd e (by omega)
      | rw [show 10 + 6 * c + 3 = 10 + 6 * b + 5 by omega, show 6 + c = 18 + b from e, upd_s, upd_s]
    · rw [upd_n _ _ e, upd_n _ _ (by omega)]
      exact h.ch c hc
  · by_cases e : 12 + c = 18 + b
    · first
      | exact absurd e (by omega)
      | rw [show 10 + 6 * c + 4 = 10 + 6 * b + 5 by omega, show 12 + c = 18 + b from e, upd_s, upd_s]
    · rw [upd_n _ _ e, upd_n _ _ (by omega)]
      exact h.fz c hc
  · by_cases e : 18 + c = 18 + b
    · first
      | exact absurd e (by omega)
      | rw [show 10 + 6 * c + 5 = 10 + 6 * b + 5 by omega, show 18 + c = 18 + b from e, upd_s, upd_s]
    · rw [upd_n _ _ e, upd_n _ _ (by omega)]
      exact h.ea c hc
  · by_cases e : 24 + c = 18 + b
    · first
      | exact absurd e (by omega)
      | rw [show 46 + 3 * c = 10 + 6 * b + 5 by omega, show 24 + c = 18 + b from e, upd_s, upd_s]
    · rw [upd_n _ _ e, upd_n _ _ (by omega)]
      exact h.wr c hc
  · by_cases e : 26 + c = 18 + b
    · first
      | exact absurd e (by omega)
      | rw [show 46 + 3 * c + 1 = 10 + 6 * b + 5 by omega, e, upd_s, upd_s]
    · rw [upd_n _ _ e, upd_n _ _ (by omega)]
      by_cases e2 : 46 + 3 * c = 10 + 6 * b + 5
      · exact absurd e2 (by omega)
      · rw [upd_n _ _ e2] at hl
        exact h.li c hc hl
  · by_cases e : 28 + c = 18 + b
    · first
      | exact absurd e (by omega)
      | rw [show 46 + 3 * c + 2 = 10 + 6 * b + 5 by omega, show 28 + c = 18 + b from e, upd_s, upd_s]
    · rw [upd_n _ _ e, upd_n _ _ (by omega)]
      exact h.wo c hc
  · by_cases e : 30 = 18 + b
    · first
      | exact absurd e (by omega)
      | rw [show 5 = 10 + 6 * b + 5 by omega, show 30 = 18 + b from e, upd_s, upd_s]
    · rw [upd_n _ _ e, upd_n _ _ (by omega)]
      exact h.h
  · by_cases e : 31 = 18 + b
    · first
      | exact absurd e (by omega)
      | rw [show 6 = 10 + 6 * b + 5 by omega, show 31 = 18 + b from e, upd_s, upd_s]
    · rw [upd_n _ _ e, upd_n _ _ (by omega)]
      exact h.d
  · by_cases e : 32 = 18 + b
    · first
      | exact absurd e (by omega)
      | rw [show 7 = 10 + 6 * b + 5 by omega, show 32 = 18 + b from e, upd_s, upd_s]
    · rw [upd_n _ _ e, upd_n _ _ (by omega)]
      exact h.sp hgg
  · rw [upd_n _ _ (by omega), upd_n _ _ (by omega)]
    exact h.z c h1 h2
theorem WR.uWr {gg : Prop} {Bn : Nat} {s w : Nat → Int32} (h : WR gg Bn s w) (hB : Bn ≤ 6) {k : Nat} (hk : k < 2) (x : Int32) (hne : ¬ x < 0) : WR gg Bn (upd s (46 + 3 * k) x) (upd w (24 + k) x) := by
  refine ⟨fun c hc => ?_, fun c hc => ?_, fun c hc => ?_, fun c hc => ?_, fun c hc => ?_, fun c hc hl => ?_, fun c hc => ?_, ?_, ?_, fun hgg => ?_, fun c h1 h2 => ?_⟩
  · by_cases e : c = 24 + k
    · first
      | exact absurd e (by omega)
      | rw [show 10 + 6 * c = 46 + 3 * k by omega, show c = 24 + k from e, upd_s, upd_s]
    · rw [upd_n _ _ e, upd_n _ _ (by omega)]
      exact h.pl c hc
  · by_cases e : 6 + c = 24 + k
    · first
      | exact absurd e (by omega)
      | rw [show 10 + 6 * c + 3 = 46 + 3 * k by omega, show 6 + c = 24 + k from e, upd_s, upd_s]
    · rw [upd_n _ _ e, upd_n _ _ (by omega)]
      exact h.ch c hc
  · by_cases e : 12 + c = 24 + k
    · first
      | exact absurd e (by omega)
      | rw [show 10 + 6 * c + 4 = 46 + 3 * k by omega, show 12 + c = 24 + k from e, upd_s, upd_s]
    · rw [upd_n _ _ e, upd_n _ _ (by omega)]
      exact h.fz c hc
  · by_cases e : 18 + c = 24 + k
    · first
      | exact absurd e (by omega)
      | rw [show 10 + 6 * c + 5 = 46 + 3 * k by omega, show 18 + c = 24 + k from e, upd_s, upd_s]
    · rw [upd_n _ _ e, upd_n _ _ (by omega)]
      exact h.ea c hc
  · by_cases e : 24 + c = 24 + k
    · first
      | exact absurd e (by omega)
      | rw [show 46 + 3 * c = 46 + 3 * k by omega, show 24 + c = 24 + k from e, upd_s, upd_s]
    · rw [upd_n _ _ e, upd_n _ _ (by omega)]
      exact h.wr c hc
  · by_cases e : 26 + c = 24 + k
    · first
      | exact absurd e (by omega)
      | rw [show 46 + 3 * c + 1 = 46 + 3 * k by omega, e, upd_s, upd_s]
    · rw [upd_n _ _ e, upd_n _ _ (by omega)]
      by_cases e2 : 46 + 3 * c = 46 + 3 * k
      · exact absurd (by rw [e2, upd_s] at hl; exact hl) hne
      · rw [upd_n _ _ e2] at hl
        exact h.li c hc hl
  · by_cases e : 28 + c = 24 + k
    · first
      | exact absurd e (by omega)
      | rw [show 46 + 3 * c + 2 = 46 + 3 * k by omega, show 28 + c = 24 + k from e, upd_s, upd_s]
    · rw [upd_n _ _ e, upd_n _ _ (by omega)]
      exact h.wo c hc
  · by_cases e : 30 = 24 + k
    · first
      | exact absurd e (by omega)
      | rw [show 5 = 46 + 3 * k by omega, show 30 = 24 + k from e, upd_s, upd_s]
    · rw [upd_n _ _ e, upd_n _ _ (by omega)]
      exact h.h
  · by_cases e : 31 = 24 + k
    · first
      | exact absurd e (by omega)
      | rw [show 6 = 46 + 3 * k by omega, show 31 = 24 + k from e, upd_s, upd_s]
    · rw [upd_n _ _ e, upd_n _ _ (by omega)]
      exact h.d
  · by_cases e : 32 = 24 + k
    · first
      | exact absurd e (by omega)
      | rw [show 7 = 46 + 3 * k by omega, show 32 = 24 + k from e, upd_s, upd_s]
    · rw [upd_n _ _ e, upd_n _ _ (by omega)]
      exact h.sp hgg
  · rw [upd_n _ _ (by omega), upd_n _ _ (by omega)]
    exact h.z c h1 h2
theorem WR.uWo {gg : Prop} {Bn : Nat} {s w : Nat → Int32} (h : WR gg Bn s w) (hB : Bn ≤ 6) {k : Nat} (hk : k < 2) (x : Int32) : WR gg Bn (upd s (46 + 3 * k + 2) x) (upd w (28 + k) x) := by
  refine ⟨fun c hc => ?_, fun c hc => ?_, fun c hc => ?_, fun c hc => ?_, fun c hc => ?_, fun c hc hl => ?_, fun c hc => ?_, ?_, ?_, fun hgg => ?_, fun c h1 h2 => ?_⟩
  · by_cases e : c = 28 + k
    · first
      | exact absurd e (by omega)
      | rw [show 10 + 6 * c = 46 + 3 * k + 2 by omega, show c = 28 + k from e, upd_s, upd_s]
    · rw [upd_n _ _ e, upd_n _ _ (by omega)]
      exact h.pl c hc
  · by_cases e : 6 + c = 28 + k
    · first
      | exact absurd e (by omega)
      | rw [show 10 + 6 * c + 3 = 46 + 3 * k + 2 by omega, show 6 + c = 28 + k from e, upd_s, upd_s]
    · rw [upd_n _ _ e, upd_n _ _ (by omega)]
      exact h.ch c hc
  · by_cases e : 12 + c = 28 + k
    · first
      | exact absurd e (by omega)
      | rw [show 10 + 6 * c + 4 = 46 + 3 * k + 2 by omega, show 12 + c = 28 + k from e, upd_s, upd_s]
    · rw [upd_n _ _ e, upd_n _ _ (by omega)]
      exact h.fz c hc
  · by_cases e : 18 + c = 28 + k
    · first
      | exact absurd e (by omega)
      | rw [show 10 + 6 * c + 5 = 46 + 3 * k + 2 by omega, show 18 + c = 28 + k from e, upd_s, upd_s]
    · rw [upd_n _ _ e, upd_n _ _ (by omega)]
      exact h.ea c hc
  · by_cases e : 24 + c = 28 + k
    · first
      | exact absurd e (by omega)
      | rw [show 46 + 3 * c = 46 + 3 * k + 2 by omega, show 24 + c = 28 + k from e, upd_s, upd_s]
    · rw [upd_n _ _ e, upd_n _ _ (by omega)]
      exact h.wr c hc
  · by_cases e : 26 + c = 28 + k
    · first
      | exact absurd e (by omega)
      | rw [show 46 + 3 * c + 1 = 46 + 3 * k + 2 by omega, e, upd_s, upd_s]
    · rw [upd_n _ _ e, upd_n _ _ (by omega)]
      by_cases e2 : 46 + 3 * c = 46 + 3 * k + 2
      · exact absurd e2 (by omega)
      · rw [upd_n _ _ e2] at hl
        exact h.li c hc hl
  · by_cases e : 28 + c = 28 + k
    · first
      | exact absurd e (by omega)
      | rw [show 46 + 3 * c + 2 = 46 + 3 * k + 2 by omega, show 28 + c = 28 + k from e, upd_s, upd_s]
    · rw [upd_n _ _ e, upd_n _ _ (by omega)]
      exact h.wo c hc
  · by_cases e : 30 = 28 + k
    · first
      | exact absurd e (by omega)
      | rw [show 5 = 46 + 3 * k + 2 by omega, show 30 = 28 + k from e, upd_s, upd_s]
    · rw [upd_n _ _ e, upd_n _ _ (by omega)]
      exact h.h
  · by_cases e : 31 = 28 + k
    · first
      | exact absurd e (by omega)
      | rw [show 6 = 46 + 3 * k + 2 by omega, show 31 = 28 + k from e, upd_s, upd_s]
    · rw [upd_n _ _ e, upd_n _ _ (by omega)]
      exact h.d
  · by_cases e : 32 = 28 + k
    · first
      | exact absurd e (by omega)
      | rw [show 7 = 46 + 3 * k + 2 by omega, show 32 = 28 + k from e, upd_s, upd_s]
    · rw [upd_n _ _ e, upd_n _ _ (by omega)]
      exact h.sp hgg
  · rw [upd_n _ _ (by omega), upd_n _ _ (by omega)]
    exact h.z c h1 h2
theorem WR.uH {gg : Prop} {Bn : Nat} {s w : Nat → Int32} (h : WR gg Bn s w) (hB : Bn ≤ 6)  (x : Int32) : WR gg Bn (upd s (5) x) (upd w (30) x) := by
  refine ⟨fun c hc => ?_, fun c hc => ?_, fun c hc => ?_, fun c hc => ?_, fun c hc => ?_, fun c hc hl => ?_, fun c hc => ?_, ?_, ?_, fun hgg => ?_, fun c h1 h2 => ?_⟩
  · by_cases e : c = 30
    · first
      | exact absurd e (by omega)
      | rw [show 10 + 6 * c = 5 by omega, show c = 30 from e, upd_s, upd_s]
    · rw [upd_n _ _ e, upd_n _ _ (by omega)]
      exact h.pl c hc
  · by_cases e : 6 + c = 30
    · first
      | exact absurd e (by omega)
      | rw [show 10 + 6 * c + 3 = 5 by omega, show 6 + c = 30 from e, upd_s, upd_s]
    · rw [upd_n _ _ e, upd_n _ _ (by omega)]
      exact h.ch c hc
  · by_cases e : 12 + c = 30
    · first
      | exact absurd e (by omega)
      | rw [show 10 + 6 * c + 4 = 5 by omega, show 12 + c = 30 from e, upd_s, upd_s]
    · rw [upd_n _ _ e, upd_n _ _ (by omega)]
      exact h.fz c hc
  · by_cases e : 18 + c = 30
    · first
      | exact absurd e (by omega)
      | rw [show 10 + 6 * c + 5 = 5 by omega, show 18 + c = 30 from e, upd_s, upd_s]
    · rw [upd_n _ _ e, upd_n _ _ (by omega)]
      exact h.ea c hc
  · by_cases e : 24 + c = 30
    · first
      | exact absurd e (by omega)
      | rw [show 46 + 3 * c = 5 by omega, show 24 + c = 30 from e, upd_s, upd_s]
    · rw [upd_n _ _ e, upd_n _ _ (by omega)]
      exact h.wr c hc
  · by_cases e : 26 + c = 30
    · first
      | exact absurd e (by omega)
      | rw [show 46 + 3 * c + 1 = 5 by omega, e, upd_s, upd_s]
    · rw [upd_n _ _ e, upd_n _ _ (by omega)]
      by_cases e2 : 46 + 3 * c = 5
      · exact absurd e2 (by omega)
      · rw [upd_n _ _ e2] at hl
        exact h.li c hc hl
  · by_cases e : 28 + c = 30
    · first
      | exact absurd e (by omega)
      | rw [show 46 + 3 * c + 2 = 5 by omega, show 28 + c = 30 from e, upd_s, upd_s]
    · rw [upd_n _ _ e, upd_n _ _ (by omega)]
      exact h.wo c hc
  · by_cases e : 30 = 30
    · first
      | exact absurd e (by omega)
      | rw [show 5 = 5 by omega, show 30 = 30 from e, upd_s, upd_s]
    · rw [upd_n _ _ e, upd_n _ _ (by omega)]
      exact h.h
  · by_cases e : 31 = 30
    · first
      | exact absurd e (by omega)
      | rw [show 6 = 5 by omega, show 31 = 30 from e, upd_s, upd_s]
    · rw [upd_n _ _ e, upd_n _ _ (by omega)]
      exact h.d
  · by_cases e : 32 = 30
    · first
      | exact absurd e (by omega)
      | rw [show 7 = 5 by omega, show 32 = 30 from e, upd_s, upd_s]
    · rw [upd_n _ _ e, upd_n _ _ (by omega)]
      exact h.sp hgg
  · rw [upd_n _ _ (by omega), upd_n _ _ (by omega)]
    exact h.z c h1 h2
theorem WR.uD {gg : Prop} {Bn : Nat} {s w : Nat → Int32} (h : WR gg Bn s w) (hB : Bn ≤ 6)  (x : Int32) : WR gg Bn (upd s (6) x) (upd w (31) x) := by
  refine ⟨fun c hc => ?_, fun c hc => ?_, fun c hc => ?_, fun c hc => ?_, fun c hc => ?_, fun c hc hl => ?_, fun c hc => ?_, ?_, ?_, fun hgg => ?_, fun c h1 h2 => ?_⟩
  · by_cases e : c = 31
    · first
      | exact absurd e (by omega)
      | rw [show 10 + 6 * c = 6 by omega, show c = 31 from e, upd_s, upd_s]
    · rw [upd_n _ _ e, upd_n _ _ (by omega)]
      exact h.pl c hc
  · by_cases e : 6 + c = 31
    · first
      | exact absurd e (by omega)
      | rw [show 10 + 6 * c + 3 = 6 by omega, show 6 + c = 31 from e, upd_s, upd_s]
    · rw [upd_n _ _ e, upd_n _ _ (by omega)]
      exact h.ch c hc
  · by_cases e : 12 + c = 31
    · first
      | exact absurd e (by omega)
      | rw [show 10 + 6 * c + 4 = 6 by omega, show 12 + c = 31 from e, upd_s, upd_s]
    · rw [upd_n _ _ e, upd_n _ _ (by omega)]
      exact h.fz c hc
  · by_cases e : 18 + c = 31
    · first
      | exact absurd e (by omega)
      | rw [show 10 + 6 * c + 5 = 6 by omega, show 18 + c = 31 from e, upd_s, upd_s]
    · rw [upd_n _ _ e, upd_n _ _ (by omega)]
      exact h.ea c hc
  · by_cases e : 24 + c = 31
    · first
      | exact absurd e (by omega)
      | rw [show 46 + 3 * c = 6 by omega, show 24 + c = 31 from e, upd_s, upd_s]
    · rw [upd_n _ _ e, upd_n _ _ (by omega)]
      exact h.wr c hc
  · by_cases e : 26 + c = 31
    · first
      | exact absurd e (by omega)
      | rw [show 46 + 3 * c + 1 = 6 by omega, e, upd_s, upd_s]
    · rw [upd_n _ _ e, upd_n _ _ (by omega)]
      by_cases e2 : 46 + 3 * c = 6
      · exact absurd e2 (by omega)
      · rw [upd_n _ _ e2] at hl
        exact h.li c hc hl
  · by_cases e : 28 + c = 31
    · first
      | exact absurd e (by omega)
      | rw [show 46 + 3 * c + 2 = 6 by omega, show 28 + c = 31 from e, upd_s, upd_s]
    · rw [upd_n _ _ e, upd_n _ _ (by omega)]
      exact h.wo c hc
  · by_cases e : 30 = 31
    · first
      | exact absurd e (by omega)
      | rw [show 5 = 6 by omega, show 30 = 31 from e, upd_s, upd_s]
    · rw [upd_n _ _ e, upd_n _ _ (by omega)]
      exact h.h
  · by_cases e : 31 = 31
    · first
      | exact absurd e (by omega)
      | rw [show 6 = 6 by omega, show 31 = 31 from e, upd_s, upd_s]
    · rw [upd_n _ _ e, upd_n _ _ (by omega)]
      exact h.d
  · by_cases e : 32 = 31
    · first
      | exact absurd e (by omega)
      | rw [show 7 = 6 by omega, show 32 = 31 from e, upd_s, upd_s]
    · rw [upd_n _ _ e, upd_n _ _ (by omega)]
      exact h.sp hgg
  · rw [upd_n _ _ (by omega), upd_n _ _ (by omega)]
    exact h.z c h1 h2
theorem WR.uSp {gg : Prop} {Bn : Nat} {s w : Nat → Int32} (h : WR gg Bn s w) (hB : Bn ≤ 6)  (x : Int32) : WR gg Bn (upd s (7) x) (upd w (32) x) := by
  refine ⟨fun c hc => ?_, fun c hc => ?_, fun c hc => ?_, fun c hc => ?_, fun c hc => ?_, fun c hc hl => ?_, fun c hc => ?_, ?_, ?_, fun hgg => ?_, fun c h1 h2 => ?_⟩
  · by_cases e : c = 32
    · first
      | exact absurd e (by omega)
      | rw [show 10 + 6 * c = 7 by omega, show c = 32 from e, upd_s, upd_s]
    · rw [upd_n _ _ e, upd_n _ _ (by omega)]
      exact h.pl c hc
  · by_cases e : 6 + c = 32
    · first
      | exact absurd e (by omega)
      | rw [show 10 + 6 * c + 3 = 7 by omega, show 6 + c = 32 from e, upd_s, upd_s]
    · rw [upd_n _ _ e, upd_n _ _ (by omega)]
      exact h.ch c hc
  · by_cases e : 12 + c = 32
    · first
      | exact absurd e (by omega)
      | rw [show 10 + 6 * c + 4 = 7 by omega, show 12 + c = 32 from e, upd_s, upd_s]
    · rw [upd_n _ _ e, upd_n _ _ (by omega)]
      exact h.fz c hc
  · by_cases e : 18 + c = 32
    · first
      | exact absurd e (by omega)
      | rw [show 10 + 6 * c + 5 = 7 by omega, show 18 + c = 32 from e, upd_s, upd_s]
    · rw [upd_n _ _ e, upd_n _ _ (by omega)]
      exact h.ea c hc
  · by_cases e : 24 + c = 32
    · first
      | exact absurd e (by omega)
      | rw [show 46 + 3 * c = 7 by omega, show 24 + c = 32 from e, upd_s, upd_s]
    · rw [upd_n _ _ e, upd_n _ _ (by omega)]
      exact h.wr c hc
  · by_cases e : 26 + c = 32
    · first
      | exact absurd e (by omega)
      | rw [show 46 + 3 * c + 1 = 7 by omega, e, upd_s, upd_s]
    · rw [upd_n _ _ e, upd_n _ _ (by omega)]
      by_cases e2 : 46 + 3 * c = 7
      · exact absurd e2 (by omega)
      · rw [upd_n _ _ e2] at hl
        exact h.li c hc hl
  · by_cases e : 28 + c = 32
    · first
      | exact absurd e (by omega)
      | rw [show 46 + 3 * c + 2 = 7 by omega, show 28 + c = 32 from e, upd_s, upd_s]
    · rw [upd_n _ _ e, upd_n _ _ (by omega)]
      exact h.wo c hc
  · by_cases e : 30 = 32
    · first
      | exact absurd e (by omega)
      | rw [show 5 = 7 by omega, show 30 = 32 from e, upd_s, upd_s]
    · rw [upd_n _ _ e, upd_n _ _ (by omega)]
      exact h.h
  · by_cases e : 31 = 32
    · first
      | exact absurd e (by omega)
      | rw [show 6 = 7 by omega, show 31 = 32 from e, upd_s, upd_s]
    · rw [upd_n _ _ e, upd_n _ _ (by omega)]
      exact h.d
  · by_cases e : 32 = 32
    · first
      | exact absurd e (by omega)
      | rw [show 7 = 7 by omega, show 32 = 32 from e, upd_s, upd_s]
    · rw [upd_n _ _ e, upd_n _ _ (by omega)]
      exact h.sp hgg
  · rw [upd_n _ _ (by omega), upd_n _ _ (by omega)]
    exact h.z c h1 h2
theorem c_I_compare {d : Nat} {m : xM} (x y : Int32) : Cl d j_Integer_compare [.int x, .int y] m (Pi (if x < y then -1 else if x = y then 0 else 1) m) := by
  show Rn d j_Integer_compare 0 _ _ _ _
  refine Rn.step (pc' := 1) rfl rfl ?_
  refine Rn.step (pc' := 2) rfl rfl ?_
  refine Rn.icmp_ge (pc1 := 9) (pc2 := 5) rfl rfl rfl (fun h2 => ?_) (fun h2 => ?_)
  · refine Rn.step (pc' := 10) rfl rfl ?_
    refine Rn.step (pc' := 11) rfl rfl ?_
    refine Rn.icmp_ne (pc1 := 18) (pc2 := 14) rfl rfl rfl (fun h11 => ?_) (fun h11 => ?_)
    · refine Rn.iconst (v := 1) (pc' := 19) rfl (by decide) rfl ?_
      exact Rn.iret rfl (rfl) (⟨by rw [if_neg (Int32.not_lt.mpr h2), if_neg h11], rfl⟩)
    · refine Rn.iconst (v := 0) (pc' := 15) rfl (by decide) rfl ?_
      refine Rn.step (pc' := 19) rfl rfl ?_
      exact Rn.iret rfl (rfl) (⟨by rw [if_neg (Int32.not_lt.mpr h2), if_pos h11], rfl⟩)
  · refine Rn.iconst (v := (-1)) (pc' := 6) rfl (by decide) rfl ?_
    refine Rn.step (pc' := 19) rfl rfl ?_
    exact Rn.iret rfl (rfl) (⟨by rw [if_pos (Int32.not_le.mp h2)], rfl⟩)
theorem lt_of_ge_ne {x : Int32} (h : 0 ≤ x) (g : ¬ x = 0) : 0 < x := by
  rw [Int32.lt_iff_toInt_lt]
  rw [Int32.le_iff_toInt_le] at h
  have : x.toInt ≠ (0 : Int32).toInt := fun e => g (Int32.toInt_inj.mp e)
  omega
theorem c_L_compare {d : Nat} {m : xM} (x : Int64) : Cl d j_Long_compare [.long x, .long 0] m (Pi (sg64 x) m) := by
  show Rn d j_Long_compare 0 _ _ _ _
  refine Rn.step (pc' := 1) rfl rfl ?_
  refine Rn.step (pc' := 2) rfl rfl ?_
  refine Rn.lcmp (pc' := 3) rfl rfl ?_
  refine Rn.ifc_ge (pc1 := 10) (pc2 := 6) rfl rfl rfl (fun h3 => ?_) (fun h3 => ?_)
  · refine Rn.step (pc' := 11) rfl rfl ?_
    refine Rn.step (pc' := 12) rfl rfl ?_
    refine Rn.lcmp (pc' := 13) rfl rfl ?_
    refine Rn.ifc_ne (pc1 := 20) (pc2 := 16) rfl rfl rfl (fun h13 => ?_) (fun h13 => ?_)
    · refine Rn.iconst (v := 1) (pc' := 21) rfl (by decide) rfl ?_
      exact Rn.iret rfl (rfl) (⟨by
          unfold sg64
          rw [if_neg (fun z => Int32.not_lt.mpr h3 ((lg_cmp_lt _ _).mpr z)), if_pos ((lg_cmp_gt _ _).mp (lt_of_ge_ne h3 h13))], rfl⟩)
    · refine Rn.iconst (v := 0) (pc' := 17) rfl (by decide) rfl ?_
      refine Rn.step (pc' := 21) rfl rfl ?_
      exact Rn.iret rfl (rfl) (⟨by
          unfold sg64
          rw [if_neg (fun z => Int32.not_lt.mpr h3 ((lg_cmp_lt _ _).mpr z)), if_neg (fun z => absurd h13 (fun e => absurd ((lg_cmp_gt _ _).mpr z) (by rw [e]; decide)))], rfl⟩)
  · refine Rn.iconst (v := (-1)) (pc' := 7) rfl (by decide) rfl ?_
    refine Rn.step (pc' := 21) rfl rfl ?_
    exact Rn.iret rfl (rfl) (⟨by
        unfold sg64
        rw [if_pos ((lg_cmp_lt _ _).mp (Int32.not_le.mp h3))], rfl⟩)
theorem c_max {d : Nat} {m : xM} (x y : Int32) : Cl d j_Math_max [.int x, .int y] m (Pi (if x < y then y else x) m) := by
  show Rn d j_Math_max 0 _ _ _ _
  refine Rn.step (pc' := 1) rfl rfl ?_
  refine Rn.step (pc' := 2) rfl rfl ?_
  refine Rn.icmp_lt (pc1 := 9) (pc2 := 5) rfl rfl rfl (fun h2 => ?_) (fun h2 => ?_)
  · refine Rn.step (pc' := 10) rfl rfl ?_
    exact Rn.iret rfl (rfl) (⟨by rw [if_pos h2], rfl⟩)
  · refine Rn.step (pc' := 6) rfl rfl ?_
    refine Rn.step (pc' := 10) rfl rfl ?_
    exact Rn.iret rfl (rfl) (⟨by rw [if_neg h2], rfl⟩)
theorem c_min {d : Nat} {m : xM} (x y : Int32) : Cl d j_Math_min [.int x, .int y] m (Pi (if y < x then y else x) m) := by
  show Rn d j_Math_min 0 _ _ _ _
  refine Rn.step (pc' := 1) rfl rfl ?_
  refine Rn.step (pc' := 2) rfl rfl ?_
  refine Rn.icmp_gt (pc1 := 9) (pc2 := 5) rfl rfl rfl (fun h2 => ?_) (fun h2 => ?_)
  · refine Rn.step (pc' := 10) rfl rfl ?_
    exact Rn.iret rfl (rfl) (⟨by rw [if_pos h2], rfl⟩)
  · refine Rn.step (pc' := 6) rfl rfl ?_
    refine Rn.step (pc' := 10) rfl rfl ?_
    exact Rn.iret rfl (rfl) (⟨by rw [if_neg h2], rfl⟩)
/-- how many bits are set, as Java counts them -/
def bcA (x : Int32) : Int32 := x - (((x.toUInt32 >>> ((1 : Int32).toUInt32 &&& Int32.toUInt32 31)).toInt32) &&& 1431655765)
def bcB (x : Int32) : Int32 := (x &&& 858993459) + (((x.toUInt32 >>> ((2 : Int32).toUInt32 &&& Int32.toUInt32 31)).toInt32) &&& 858993459)
def bcC (x : Int32) : Int32 := (x + ((x.toUInt32 >>> ((4 : Int32).toUInt32 &&& Int32.toUInt32 31)).toInt32)) &&& 252645135
def bcD (x : Int32) : Int32 := x + ((x.toUInt32 >>> ((8 : Int32).toUInt32 &&& Int32.toUInt32 31)).toInt32)
def bcE (x : Int32) : Int32 := x + ((x.toUInt32 >>> ((16 : Int32).toUInt32 &&& Int32.toUInt32 31)).toInt32)
def bcF (x : Int32) : Int32 := bcE (bcD (bcC (bcB (bcA x)))) &&& 63
def bits7 (a : Nat) : Nat := a % 2 + a / 2 % 2 + a / 4 % 2 + a / 8 % 2 + a / 16 % 2 + a / 32 % 2 + a / 64 % 2
theorem bcF_7 : ∀ a, a < 128 → bcF (nI a) = nI (bits7 a) := by decide +kernel
theorem c_bitCount {d : Nat} {m : xM} (x : Int32) : Cl d j_Integer_bitCount [.int x] m (Pi (bcF x) m) := by
  show Rn d j_Integer_bitCount 0 _ _ _ _
  refine Rn.step (pc' := 1) rfl rfl ?_
  refine Rn.step (pc' := 2) rfl rfl ?_
  refine Rn.iconst (v := 1) (pc' := 3) rfl (by decide) rfl ?_
  refine Rn.iushr (pc' := 4) rfl rfl ?_
  refine Rn.iconst (v := 1431655765) (pc' := 7) rfl (by decide) rfl ?_
  refine Rn.iand (pc' := 8) rfl rfl ?_
  refine Rn.isub (pc' := 9) rfl rfl ?_
  refine Rn.step (pc' := 10) rfl rfl ?_
  refine Rn.step (pc' := 11) rfl rfl ?_
  refine Rn.iconst (v := 858993459) (pc' := 14) rfl (by decide) rfl ?_
  refine Rn.iand (pc' := 15) rfl rfl ?_
  refine Rn.step (pc' := 16) rfl rfl ?_
  refine Rn.iconst (v := 2) (pc' := 17) rfl (by decide) rfl ?_
  refine Rn.iushr (pc' := 18) rfl rfl ?_
  refine Rn.iconst (v := 858993459) (pc' := 21) rfl (by decide) rfl ?_
  refine Rn.iand (pc' := 22) rfl rfl ?_
  refine Rn.iadd (pc' := 23) rfl rfl ?_
  refine Rn.step (pc' := 24) rfl rfl ?_
  refine Rn.step (pc' := 25) rfl rfl ?_
  refine Rn.step (pc' := 26) rfl rfl ?_
  refine Rn.iconst (v := 4) (pc' := 27) rfl (by decide) rfl ?_
  refine Rn.iushr (pc' := 28) rfl rfl ?_
  refine Rn.iadd (pc' := 29) rfl rfl ?_
  refine Rn.iconst (v := 252645135) (pc' := 32) rfl (by decide) rfl ?_
  refine Rn.iand (pc' := 33) rfl rfl ?_
  refine Rn.step (pc' := 34) rfl rfl ?_
  refine Rn.step (pc' := 35) rfl rfl ?_
  refine Rn.step (pc' := 36) rfl rfl ?_
  refine Rn.iconst (v := 8) (pc' := 38) rfl (by decide) rfl ?_
  refine Rn.iushr (pc' := 39) rfl rfl ?_
  refine Rn.iadd (pc' := 40) rfl rfl ?_
  refine Rn.step (pc' := 41) rfl rfl ?_
  refine Rn.step (pc' := 42) rfl rfl ?_
  refine Rn.step (pc' := 43) rfl rfl ?_
  refine Rn.iconst (v := 16) (pc' := 45) rfl (by decide) rfl ?_
  refine Rn.iushr (pc' := 46) rfl rfl ?_
  refine Rn.iadd (pc' := 47) rfl rfl ?_
  refine Rn.step (pc' := 48) rfl rfl ?_
  refine Rn.step (pc' := 49) rfl rfl ?_
  refine Rn.iconst (v := 63) (pc' := 51) rfl (by decide) rfl ?_
  refine Rn.iand (pc' := 52) rfl rfl ?_
  exact Rn.iret rfl (rfl) (⟨rfl, rfl⟩)
theorem c_C_fits {d P Bn Fn Wn b : Nat} (hl : LR P Bn Fn Wn s F I) (hB : Bn ≤ 6) (hb : b < Bn) : Cl d j_Lane_fits [.ref 17, .int (nI b)] (CC m0 F I L R H) (Pi (if s 1 < s (10 + 6 * b + 2) then 0 else 1) (CC m0 F I L R H)) := by
  show Rn d j_Lane_fits 0 _ _ _ _
  refine Rn.step (pc' := 1) rfl rfl ?_
  refine Rn.getf (pc' := 4) rfl rfl rfl rfl rfl ?_
  refine Rn.step (pc' := 5) rfl rfl ?_
  refine Rn.cald (k := b) (pc' := 6) rfl rfl (by simp only [nI_lit, nI_add, pk_mul, Nat.zero_add]) (by omega) (hl.si b hb) (by decide) rfl ?_
  refine Rn.step (pc' := 7) rfl rfl ?_
  refine Rn.getf (pc' := 10) rfl rfl rfl rfl rfl ?_
  have e7 := hl.sz
  refine Rn.icmp_gt (pc1 := 17) (pc2 := 13) rfl rfl rfl (fun h10 => ?_) (fun h10 => ?_)
  · refine Rn.iconst (v := 0) (pc' := 18) rfl (by decide) rfl ?_
    exact Rn.iret rfl (by decide) (⟨by rw [if_pos (e7 ▸ h10)], rfl⟩)
  · refine Rn.iconst (v := 1) (pc' := 14) rfl (by decide) rfl ?_
    refine Rn.step (pc' := 18) rfl rfl ?_
    exact Rn.iret rfl (by decide) (⟨by rw [if_neg (e7 ▸ h10)], rfl⟩)
theorem mFr_mono {s : Nat → Int32} {f : Int32} {k : Nat} (h : mFr s f k = 1) : ∀ n, k ≤ n → mFr s f n = 1 := by
  intro n hn
  induction hn with
  | refl => exact h
  | step _ ih => rw [mFr_s, if_pos (Or.inl (by rw [ih]; decide))]
theorem l_C_hasFrost {d P Bn Fn Wn : Nat} (hl : LR P Bn Fn Wn s F I) (hF : s 3 = nI Fn) (hF4 : Fn ≤ 4) (k : Nat) (hk : k ≤ Fn) (hz : mFr s 0 k = 0) : Rn d j_Lane_hasFrost 2 [.ref 17, .int (s 5), .int (nI k)] [] (CC m0 F I L R H) (Pi (mFr s 0 Fn) (CC m0 F I L R H)) := by
  refine Rn.step (pc' := 3) rfl rfl ?_
  refine Rn.step (pc' := 4) rfl rfl ?_
  refine Rn.getf (pc' := 7) rfl rfl rfl rfl rfl ?_
  refine Rn.icmp_ge (pc1 := 44) (pc2 := 10) rfl rfl rfl (fun h7 => ?_) (fun h7 => ?_)
  · obtain rfl := nI_up (by omega) hk (by rw [hl.f, hF] at h7; exact h7)
    refine Rn.iconst (v := 0) (pc' := 45) rfl (by decide) rfl ?_
    exact Rn.iret rfl (by decide) (⟨by rw [hz], rfl⟩)
  · have hk2 := nI_dn (by omega) hk (by rw [hl.f, hF] at h7; exact h7)
    refine Rn.step (pc' := 11) rfl rfl ?_
    refine Rn.getf (pc' := 14) rfl rfl rfl rfl rfl ?_
    refine Rn.iconst (v := 2) (pc' := 15) rfl (by decide) rfl ?_
    refine Rn.step (pc' := 16) rfl rfl ?_
    refine Rn.imul (pc' := 17) rfl rfl ?_
    refine Rn.cald (k := 2 * k) (pc' := 18) rfl rfl (by simp only [nI_lit, nI_add, pk_mul, Nat.zero_add]) (by omega) (hl.fr (2 * k) (by omega)) (by decide) rfl ?_
    refine Rn.step (pc' := 19) rfl rfl ?_
    refine Rn.icmp_gt (pc1 := 38) (pc2 := 22) rfl rfl rfl (fun h19 => ?_) (fun h19 => ?_)
    · refine Rn.step (pc' := 41) rfl rfl ?_
      refine Rn.step (pc' := 2) rfl rfl ?_
      exact Rn.ls3 rfl rfl (congrArg Value.int (nI_i1 k)) (l_C_hasFrost hl hF hF4 (k + 1) (by omega) (by rw [mFr_s, if_neg (fun z => z.elim (fun c => c hz) (fun c => Int32.not_lt.mpr c.1 h19))]))
    · refine Rn.step (pc' := 23) rfl rfl ?_
      refine Rn.step (pc' := 24) rfl rfl ?_
      refine Rn.getf (pc' := 27) rfl rfl rfl rfl rfl ?_
      refine Rn.iconst (v := 2) (pc' := 28) rfl (by decide) rfl ?_
      refine Rn.step (pc' := 29) rfl rfl ?_
      refine Rn.imul (pc' := 30) rfl rfl ?_
      refine Rn.iconst (v := 1) (pc' := 31) rfl (by decide) rfl ?_
      refine Rn.iadd (pc' := 32) rfl rfl ?_
      refine Rn.cald (k := 2 * k + 1) (pc' := 33) rfl rfl (by simp only [nI_lit, nI_add, pk_mul, Nat.zero_add]) (by omega) (hl.fr (2 * k + 1) (by omega)) (by decide) rfl ?_
      refine Rn.icmp_gt (pc1 := 38) (pc2 := 36) rfl rfl rfl (fun h33 => ?_) (fun h33 => ?_)
      · refine Rn.step (pc' := 41) rfl rfl ?_
        refine Rn.step (pc' := 2) rfl rfl ?_
        exact Rn.ls3 rfl rfl (congrArg Value.int (nI_i1 k)) (l_C_hasFrost hl hF hF4 (k + 1) (by omega) (by rw [mFr_s, if_neg (fun z => z.elim (fun c => c hz) (fun c => c.2 h33))]))
      · refine Rn.iconst (v := 1) (pc' := 37) rfl (by decide) rfl ?_
        exact Rn.iret rfl (by decide) (⟨by rw [mFr_mono (k := k + 1) (by rw [mFr_s, if_pos (Or.inr ⟨Int32.not_lt.mp h19, h33⟩)]) Fn (by omega)], rfl⟩)
termination_by Fn - k
theorem c_C_hasFrost {d P Bn Fn Wn : Nat} (hl : LR P Bn Fn Wn s F I) (hF : s 3 = nI Fn) (hF4 : Fn ≤ 4) : Cl d j_Lane_hasFrost [.ref 17, .int (s 5)] (CC m0 F I L R H) (Pi (mFr s 0 Fn) (CC m0 F I L R H)) := by
  show Rn d j_Lane_hasFrost 0 _ _ _ _
  refine Rn.iconst (v := 0) (pc' := 1) rfl (by decide) rfl ?_
  refine Rn.step (pc' := 2) rfl rfl ?_
  exact l_C_hasFrost hl hF hF4 0 (by omega) rfl
/-- the hour of the next want so far -/
def nxh (s : Nat → Int32) : Option Nat → Int32
  | none => 24
  | some q => s (60 + 4 * q + 2)
theorem l_C_nextWant {d P Bn Fn Wn b : Nat} (hl : LR P Bn Fn Wn s F I) (hW : s 4 = nI Wn) (hW10 : Wn ≤ 10) (hwh : ∀ k, k < Wn → ∃ h, h < 24 ∧ s (60 + 4 * k + 2) = nI h) (hb : b < 6) (k : Nat) (x6 : Value) (hk : k ≤ Wn) : Rn d j_Lane_nextWant 9 [.ref 17, .int (nI b), .int (s 5), .int (eO (nxw s b k)), .int (nxh s (nxw s b k)), .int (nI k), x6] [] (CC m0 F I L R H) (Pi (eO (nxw s b Wn)) (CC m0 F I L R H)) := by
  refine Rn.step (pc' := 11) rfl rfl ?_
  refine Rn.step (pc' := 12) rfl rfl ?_
  refine Rn.getf (pc' := 15) rfl rfl rfl rfl rfl ?_
  refine Rn.icmp_ge (pc1 := 70) (pc2 := 18) rfl rfl rfl (fun h15 => ?_) (fun h15 => ?_)
  · obtain rfl := nI_up (by omega) hk (by rw [hl.wn, hW] at h15; exact h15)
    refine Rn.step (pc' := 71) rfl rfl ?_
    exact Rn.iret rfl (rfl) (⟨rfl, rfl⟩)
  · have hk2 := nI_dn (by omega) hk (by rw [hl.wn, hW] at h15; exact h15)
    refine Rn.step (pc' := 19) rfl rfl ?_
    refine Rn.getf (pc' := 22) rfl rfl rfl rfl rfl ?_
    refine Rn.iconst (v := 4) (pc' := 23) rfl (by decide) rfl ?_
    refine Rn.step (pc' := 25) rfl rfl ?_
    refine Rn.imul (pc' := 26) rfl rfl ?_
    refine Rn.iconst (v := 2) (pc' := 27) rfl (by decide) rfl ?_
    refine Rn.iadd (pc' := 28) rfl rfl ?_
    refine Rn.cald (k := 4 * k + 2) (pc' := 29) rfl rfl (by simp only [nI_lit, nI_add, pk_mul, Nat.zero_add]) (by omega) (hl.wa (4 * k + 2) (by omega)) (by decide) rfl ?_
    refine Rn.step (pc' := 31) rfl rfl ?_
    refine Rn.step (pc' := 32) rfl rfl ?_
    refine Rn.getf (pc' := 35) rfl rfl rfl rfl rfl ?_
    refine Rn.iconst (v := 4) (pc' := 36) rfl (by decide) rfl ?_
    refine Rn.step (pc' := 38) rfl rfl ?_
    refine Rn.imul (pc' := 39) rfl rfl ?_
    refine Rn.cald (k := 4 * k) (pc' := 40) rfl rfl (by simp only [nI_lit, nI_add, pk_mul, Nat.zero_add]) (by omega) (hl.wa (4 * k) (by omega)) (by decide) rfl ?_
    refine Rn.step (pc' := 41) rfl rfl ?_
    refine Rn.icmp_ne (pc1 := 64) (pc2 := 44) rfl rfl rfl (fun h41 => ?_) (fun h41 => ?_)
    · refine Rn.step (pc' := 67) rfl rfl ?_
      refine Rn.step (pc' := 9) rfl rfl ?_
      have hx : ∀ e : nxw s b (k + 1) = nxw s b k, Rn d j_Lane_nextWant 9 [.ref 17, .int (nI b), .int (s 5), .int (eO (nxw s b k)), .int (nxh s (nxw s b k)), .int (nI (k + 1)), .int (s (60 + (4 * k + 2)))] [] (CC m0 F I L R H) (Pi (eO (nxw s b Wn)) (CC m0 F I L R H)) := fun e => by
        have := l_C_nextWant (d := d) hl hW hW10 hwh hb (k + 1) (.int (s (60 + (4 * k + 2)))) (by omega)
        rw [e] at this
        exact this
      rw [← nI_i1 k] at hx
      exact hx (nxw_no (fun z => h41 z.1))
    · refine Rn.step (pc' := 46) rfl rfl ?_
      refine Rn.step (pc' := 47) rfl rfl ?_
      refine Rn.icmp_lt (pc1 := 64) (pc2 := 50) rfl rfl rfl (fun h47 => ?_) (fun h47 => ?_)
      · refine Rn.step (pc' := 67) rfl rfl ?_
        refine Rn.step (pc' := 9) rfl rfl ?_
        have hx : ∀ e : nxw s b (k + 1) = nxw s b k, Rn d j_Lane_nextWant 9 [.ref 17, .int (nI b), .int (s 5), .int (eO (nxw s b k)), .int (nxh s (nxw s b k)), .int (nI (k + 1)), .int (s (60 + (4 * k + 2)))] [] (CC m0 F I L R H) (Pi (eO (nxw s b Wn)) (CC m0 F I L R H)) := fun e => by
          have := l_C_nextWant (d := d) hl hW hW10 hwh hb (k + 1) (.int (s (60 + (4 * k + 2)))) (by omega)
          rw [e] at this
          exact this
        rw [← nI_i1 k] at hx
        exact hx (nxw_no (fun z => z.2 h47))
      · refine Rn.step (pc' := 52) rfl rfl ?_
        refine Rn.step (pc' := 54) rfl rfl ?_
        refine Rn.icmp_ge (pc1 := 64) (pc2 := 57) rfl rfl rfl (fun h54 => ?_) (fun h54 => ?_)
        · refine Rn.step (pc' := 67) rfl rfl ?_
          refine Rn.step (pc' := 9) rfl rfl ?_
          have hx : ∀ e : nxw s b (k + 1) = nxw s b k, Rn d j_Lane_nextWant 9 [.ref 17, .int (nI b), .int (s 5), .int (eO (nxw s b k)), .int (nxh s (nxw s b k)), .int (nI (k + 1)), .int (s (60 + (4 * k + 2)))] [] (CC m0 F I L R H) (Pi (eO (nxw s b Wn)) (CC m0 F I L R H)) := fun e => by
            have := l_C_nextWant (d := d) hl hW hW10 hwh hb (k + 1) (.int (s (60 + (4 * k + 2)))) (by omega)
            rw [e] at this
            exact this
          rw [← nI_i1 k] at hx
          exact hx (by
            cases hq : nxw s b k with
            | none =>
              rw [hq] at h54
              obtain ⟨hh, h24, e24⟩ := hwh k hk2
              exact absurd h54 (by
                show ¬ (24 : Int32) ≤ s (60 + (4 * k + 2))
                rw [show 60 + (4 * k + 2) = 60 + 4 * k + 2 by omega, e24]
                exact fun z => absurd ((nI_leI (a := 24) (b := hh) (by omega) (by omega)).mp z) (by omega))
            | some q =>
              rw [hq] at h54
              exact nxw_ge ⟨h41, h47⟩ hq (Int32.not_lt.mpr h54))
        · refine Rn.step (pc' := 59) rfl rfl ?_
          refine Rn.step (pc' := 60) rfl rfl ?_
          refine Rn.step (pc' := 62) rfl rfl ?_
          refine Rn.step (pc' := 64) rfl rfl ?_
          refine Rn.step (pc' := 67) rfl rfl ?_
          refine Rn.step (pc' := 9) rfl rfl ?_
          have hx : ∀ e : nxw s b (k + 1) = some k, Rn d j_Lane_nextWant 9 [.ref 17, .int (nI b), .int (s 5), .int (eO (some k)), .int (nxh s (some k)), .int (nI (k + 1)), .int (s (60 + (4 * k + 2)))] [] (CC m0 F I L R H) (Pi (eO (nxw s b Wn)) (CC m0 F I L R H)) := fun e => by
            have := l_C_nextWant (d := d) hl hW hW10 hwh hb (k + 1) (.int (s (60 + (4 * k + 2)))) (by omega)
            rw [e] at this
            exact this
          rw [← nI_i1 k] at hx
          exact hx (by
            cases hq : nxw s b k with
            | none => exact nxw_new ⟨h41, h47⟩ (by omega) (by rw [hq]; decide)
            | some q =>
              rw [hq] at h54
              exact nxw_bt ⟨h41, h47⟩ hq (Int32.not_le.mp h54))
termination_by Wn - k
theorem c_C_nextWant {d P Bn Fn Wn b : Nat} (hl : LR P Bn Fn Wn s F I) (hW : s 4 = nI Wn) (hW10 : Wn ≤ 10) (hwh : ∀ k, k < Wn → ∃ h, h < 24 ∧ s (60 + 4 * k + 2) = nI h) (hb : b < 6) : Cl d j_Lane_nextWant [.ref 17, .int (nI b), .int (s 5)] (CC m0 F I L R H) (Pi (eO (nxw s b Wn)) (CC m0 F I L R H)) := by
  show Rn d j_Lane_nextWant 0 _ _ _ _
  refine Rn.iconst (v := (-1)) (pc' := 1) rfl (by decide) rfl ?_
  refine Rn.step (pc' := 2) rfl rfl ?_
  refine Rn.iconst (v := 24) (pc' := 4) rfl (by decide) rfl ?_
  refine Rn.step (pc' := 6) rfl rfl ?_
  refine Rn.iconst (v := 0) (pc' := 7) rfl (by decide) rfl ?_
  refine Rn.step (pc' := 9) rfl rfl ?_
  exact l_C_nextWant hl hW hW10 hwh hb 0 _ (by omega)
theorem c_C_goalOf {d P Bn Fn Wn b : Nat} (hd : 1 ≤ d) (hl : LR P Bn Fn Wn s F I) (hW : s 4 = nI Wn) (hW10 : Wn ≤ 10) (hwh : ∀ k, k < Wn → ∃ h, h < 24 ∧ s (60 + 4 * k + 2) = nI h) (hB : Bn ≤ 6) (hb : b < Bn) : Cl d j_Lane_goalOf [.ref 17, .int (nI b), .int (s 5)] (CC m0 F I L R H) (Pi (mGo s b Wn) (CC m0 F I L R H)) := by
  show Rn d j_Lane_goalOf 0 _ _ _ _
  refine Rn.step (pc' := 1) rfl rfl ?_
  refine Rn.step (pc' := 2) rfl rfl ?_
  refine Rn.step (pc' := 3) rfl rfl ?_
  refine Rn.vi (pc' := 6) rfl (by decide) (by omega) rfl rfl rfl (c_C_nextWant hl hW hW10 hwh (by omega)) ?_
  refine Rn.step (pc' := 7) rfl rfl ?_
  refine Rn.step (pc' := 8) rfl rfl ?_
  refine Rn.ifc_ge (pc1 := 20) (pc2 := 11) rfl rfl rfl (fun h8 => ?_) (fun h8 => ?_)
  · obtain ⟨q, hq⟩ := eO_neg (o := nxw s b Wn) (Int32.not_lt.mpr h8)
    have hq2 := nxw_lt hq
    rw [hq]
    refine Rn.step (pc' := 21) rfl rfl ?_
    refine Rn.getf (pc' := 24) rfl rfl rfl rfl rfl ?_
    refine Rn.iconst (v := 4) (pc' := 25) rfl (by decide) rfl ?_
    refine Rn.step (pc' := 26) rfl rfl ?_
    refine Rn.imul (pc' := 27) rfl rfl ?_
    refine Rn.iconst (v := 1) (pc' := 28) rfl (by decide) rfl ?_
    refine Rn.iadd (pc' := 29) rfl rfl ?_
    refine Rn.cald (k := 4 * q + 1) (pc' := 30) rfl rfl (by rw [show eO (some q) = nI q from rfl]; simp only [nI_lit, nI_add, pk_mul]) (by omega) (hl.wa (4 * q + 1) (by omega)) (by decide) rfl ?_
    exact Rn.iret rfl (rfl) (⟨by
        unfold mGo
        rw [hq]
        rfl, rfl⟩)
  · have hn : nxw s b Wn = none := by
      cases hq : nxw s b Wn with
      | none => rfl
      | some q => rw [hq] at h8; exact absurd (eO_pos (by have := nxw_lt hq; omega)) h8
    refine Rn.step (pc' := 12) rfl rfl ?_
    refine Rn.getf (pc' := 15) rfl rfl rfl rfl rfl ?_
    refine Rn.step (pc' := 16) rfl rfl ?_
    refine Rn.cald (k := b) (pc' := 17) rfl rfl (by simp only [nI_lit, nI_add, pk_mul, Nat.zero_add]) (by omega) (hl.hm b hb) (by decide) rfl ?_
    refine Rn.step (pc' := 30) rfl rfl ?_
    exact Rn.iret rfl (rfl) (⟨by
        unfold mGo
        rw [hn], rfl⟩)
theorem c_W_placeOfBoot {d Bn k : Nat} (ho : isW o) (hr : WR gg Bn s w) (hB : Bn ≤ 6) (hw : ∀ k, k < 2 → s (46 + 3 * k) = -1 ∨ ∃ c, c < Bn ∧ s (46 + 3 * k) = nI c) (hk : k < 2) : Cl d j_World_placeOfBoot [.ref o, .int (nI k)] (CWm m0 F I L R H o w) (Pi (mPl s k) (CWm m0 F I L R H o w)) := by
  show Rn d j_World_placeOfBoot 0 _ _ _ _
  refine Rn.step (pc' := 1) rfl rfl ?_
  refine Rn.cgw (pc' := 4) rfl ho rfl ?_
  refine Rn.iconst (v := 24) (pc' := 6) rfl (by decide) rfl ?_
  refine Rn.step (pc' := 7) rfl rfl ?_
  refine Rn.iadd (pc' := 8) rfl rfl ?_
  refine Rn.cwld (k := 24 + k) (pc' := 9) rfl ho (by simp only [nI_lit, nI_add, pk_mul, Nat.zero_add]) (by omega) (hr.wr k hk) (by decide) rfl ?_
  refine Rn.step (pc' := 10) rfl rfl ?_
  refine Rn.step (pc' := 11) rfl rfl ?_
  refine Rn.ifc_ge (pc1 := 26) (pc2 := 14) rfl rfl rfl (fun h11 => ?_) (fun h11 => ?_)
  · obtain ⟨c, hc, hc2⟩ : ∃ c, c < Bn ∧ s (46 + 3 * k) = nI c := by
      rcases hw k hk with h | h
      · rw [h] at h11; exact absurd h11 (by decide)
      · exact h
    refine Rn.step (pc' := 27) rfl rfl ?_
    refine Rn.cgw (pc' := 30) rfl ho rfl ?_
    refine Rn.iconst (v := 0) (pc' := 31) rfl (by decide) rfl ?_
    refine Rn.step (pc' := 32) rfl rfl ?_
    refine Rn.iadd (pc' := 33) rfl rfl ?_
    refine Rn.cwld (k := c) (pc' := 34) rfl ho (by rw [hc2]; simp only [nI_lit, nI_add, Nat.zero_add]) (by omega) (hr.pl c hc) (by decide) rfl ?_
    exact Rn.iret rfl (rfl) (⟨by rw [mPl_w hc2 (by omega)], rfl⟩)
  · refine Rn.step (pc' := 15) rfl rfl ?_
    refine Rn.cgw (pc' := 18) rfl ho rfl ?_
    refine Rn.iconst (v := 26) (pc' := 20) rfl (by decide) rfl ?_
    refine Rn.step (pc' := 21) rfl rfl ?_
    refine Rn.iadd (pc' := 22) rfl rfl ?_
    refine Rn.cwld (k := 26 + k) (pc' := 23) rfl ho (by simp only [nI_lit, nI_add, pk_mul, Nat.zero_add]) (by omega) (hr.li k hk (Int32.not_le.mp h11)) (by decide) rfl ?_
    refine Rn.step (pc' := 34) rfl rfl ?_
    exact Rn.iret rfl (rfl) (⟨by rw [mPl_l (Int32.not_le.mp h11)], rfl⟩)
theorem c_W_bootBitsOf {d Bn : Nat} (ho : isW o) (hr : WR gg Bn s w) (x : Int32) : Cl d j_World_bootBitsOf [.ref o, .int x] (CWm m0 F I L R H o w) (Pi (mB1 s x) (CWm m0 F I L R H o w)) := by
  show Rn d j_World_bootBitsOf 0 _ _ _ _
  refine Rn.step (pc' := 1) rfl rfl ?_
  refine Rn.cgw (pc' := 4) rfl ho rfl ?_
  refine Rn.iconst (v := 24) (pc' := 6) rfl (by decide) rfl ?_
  refine Rn.cwld (k := 24) (pc' := 7) rfl ho (by simp only [nI_lit, nI_add, pk_mul, Nat.zero_add]) (by omega) (hr.wr 0 (by omega)) (by decide) rfl ?_
  refine Rn.step (pc' := 8) rfl rfl ?_
  refine Rn.icmp_ne (pc1 := 15) (pc2 := 11) rfl rfl rfl (fun h8 => ?_) (fun h8 => ?_)
  · refine Rn.iconst (v := 0) (pc' := 16) rfl (by decide) rfl ?_
    refine Rn.step (pc' := 17) rfl rfl ?_
    refine Rn.step (pc' := 18) rfl rfl ?_
    refine Rn.cgw (pc' := 21) rfl ho rfl ?_
    refine Rn.iconst (v := 25) (pc' := 23) rfl (by decide) rfl ?_
    refine Rn.cwld (k := 25) (pc' := 24) rfl ho (by simp only [nI_lit, nI_add, pk_mul, Nat.zero_add]) (by omega) (hr.wr 1 (by omega)) (by decide) rfl ?_
    refine Rn.step (pc' := 25) rfl rfl ?_
    refine Rn.icmp_ne (pc1 := 34) (pc2 := 28) rfl rfl rfl (fun h25 => ?_) (fun h25 => ?_)
    · refine Rn.step (pc' := 35) rfl rfl ?_
      exact Rn.iret rfl (rfl) (⟨by
          unfold mB1
          rw [if_neg h8, if_neg h25]
          rfl, rfl⟩)
    · refine Rn.step (pc' := 29) rfl rfl ?_
      refine Rn.iconst (v := 2) (pc' := 30) rfl (by decide) rfl ?_
      refine Rn.iadd (pc' := 31) rfl rfl ?_
      refine Rn.step (pc' := 35) rfl rfl ?_
      exact Rn.iret rfl (rfl) (⟨by
          unfold mB1
          rw [if_neg h8, if_pos h25]
          rfl, rfl⟩)
  · refine Rn.iconst (v := 1) (pc' := 12) rfl (by decide) rfl ?_
    refine Rn.step (pc' := 16) rfl rfl ?_
    refine Rn.step (pc' := 17) rfl rfl ?_
    refine Rn.step (pc' := 18) rfl rfl ?_
    refine Rn.cgw (pc' := 21) rfl ho rfl ?_
    refine Rn.iconst (v := 25) (pc' := 23) rfl (by decide) rfl ?_
    refine Rn.cwld (k := 25) (pc' := 24) rfl ho (by simp only [nI_lit, nI_add, pk_mul, Nat.zero_add]) (by omega) (hr.wr 1 (by omega)) (by decide) rfl ?_
    refine Rn.step (pc' := 25) rfl rfl ?_
    refine Rn.icmp_ne (pc1 := 34) (pc2 := 28) rfl rfl rfl (fun h25 => ?_) (fun h25 => ?_)
    · refine Rn.step (pc' := 35) rfl rfl ?_
      exact Rn.iret rfl (rfl) (⟨by
          unfold mB1
          rw [if_pos h8, if_neg h25]
          rfl, rfl⟩)
    · refine Rn.step (pc' := 29) rfl rfl ?_
      refine Rn.iconst (v := 2) (pc' := 30) rfl (by decide) rfl ?_
      refine Rn.iadd (pc' := 31) rfl rfl ?_
      refine Rn.step (pc' := 35) rfl rfl ?_
      exact Rn.iret rfl (rfl) (⟨by
          unfold mB1
          rw [if_pos h8, if_pos h25]
          rfl, rfl⟩)
def sum6 (w : Nat → Int32) (f : Nat) : Nat → Int32
  | 0 => 0
  | k + 1 => sum6 w f k + w (f + k)
theorem l_W_sumOf {d f : Nat} (ho : isW o) (hf : f + 6 ≤ 33) (k : Nat) (hk : k ≤ 6) : Rn d j_World_sumOf 4 [.ref o, .int (nI f), .int (sum6 w f k), .int (nI k)] [] (CWm m0 F I L R H o w) (Pi (sum6 w f 6) (CWm m0 F I L R H o w)) := by
  refine Rn.step (pc' := 5) rfl rfl ?_
  refine Rn.iconst (v := 6) (pc' := 7) rfl (by decide) rfl ?_
  refine Rn.icmp_ge (pc1 := 27) (pc2 := 10) rfl rfl rfl (fun h7 => ?_) (fun h7 => ?_)
  · obtain rfl := nI_up (by omega) hk h7
    refine Rn.step (pc' := 28) rfl rfl ?_
    exact Rn.iret rfl (rfl) (⟨rfl, rfl⟩)
  · have hk2 := nI_dn (by omega) hk h7
    refine Rn.step (pc' := 11) rfl rfl ?_
    refine Rn.step (pc' := 12) rfl rfl ?_
    refine Rn.cgw (pc' := 15) rfl ho rfl ?_
    refine Rn.step (pc' := 16) rfl rfl ?_
    refine Rn.step (pc' := 17) rfl rfl ?_
    refine Rn.iadd (pc' := 18) rfl rfl ?_
    refine Rn.cwld (k := f + k) (pc' := 19) rfl ho (by simp only [nI_lit, nI_add, pk_mul, Nat.zero_add]) (by omega) (rfl) (by decide) rfl ?_
    refine Rn.iadd (pc' := 20) rfl rfl ?_
    refine Rn.step (pc' := 21) rfl rfl ?_
    refine Rn.step (pc' := 24) rfl rfl ?_
    refine Rn.step (pc' := 4) rfl rfl ?_
    exact Rn.ls4 rfl rfl rfl (congrArg Value.int (nI_i1 k)) (l_W_sumOf ho hf (k + 1) (by omega))
termination_by 6 - k
theorem c_W_sumOf {d f : Nat} (ho : isW o) (hf : f + 6 ≤ 33) : Cl d j_World_sumOf [.ref o, .int (nI f)] (CWm m0 F I L R H o w) (Pi (sum6 w f 6) (CWm m0 F I L R H o w)) := by
  show Rn d j_World_sumOf 0 _ _ _ _
  refine Rn.iconst (v := 0) (pc' := 1) rfl (by decide) rfl ?_
  refine Rn.step (pc' := 2) rfl rfl ?_
  refine Rn.iconst (v := 0) (pc' := 3) rfl (by decide) rfl ?_
  refine Rn.step (pc' := 4) rfl rfl ?_
  exact l_W_sumOf ho hf 0 (by omega)
theorem sum6_ea {gg : Prop} {Bn : Nat} {s w : Nat → Int32} (h : WR gg Bn s w) (hB : Bn ≤ 6) : sum6 w 18 6 = mEa s Bn := by
  have a : ∀ k, k ≤ Bn → sum6 w 18 k = mEa s k := fun k => by
    induction k with
    | zero => exact fun _ => rfl
    | succ k ih => exact fun hk => by rw [sum6, mEa, ih (by omega), h.ea k (by omega)]
  have b : ∀ j, Bn + j ≤ 6 → sum6 w 18 (Bn + j) = mEa s Bn := fun j => by
    induction j with
    | zero => exact fun _ => a Bn (Nat.le_refl _)
    | succ j ih =>
      intro hj
      rw [← Nat.add_assoc, sum6, ih (by omega), (h.z (Bn + j) (by omega) (by omega)).2]
      exact Int32.add_zero _
  have := b (6 - Bn) (by omega)
  rwa [show Bn + (6 - Bn) = 6 by omega] at this
theorem sum6_ch {gg : Prop} {Bn : Nat} {s w : Nat → Int32} (h : WR gg Bn s w) (hB : Bn ≤ 6) : sum6 w 6 6 = mCs s Bn := by
  have a : ∀ k, k ≤ Bn → sum6 w 6 k = mCs s k := fun k => by
    induction k with
    | zero => exact fun _ => rfl
    | succ k ih => exact fun hk => by rw [sum6, mCs, ih (by omega), h.ch k (by omega)]
  have b : ∀ j, Bn + j ≤ 6 → sum6 w 6 (Bn + j) = mCs s Bn := fun j => by
    induction j with
    | zero => exact fun _ => a Bn (Nat.le_refl _)
    | succ j ih =>
      intro hj
      rw [← Nat.add_assoc, sum6, ih (by omega), (h.z (Bn + j) (by omega) (by omega)).1]
      exact Int32.add_zero _
  have := b (6 - Bn) (by omega)
  rwa [show Bn + (6 - Bn) = 6 by omega] at this
theorem c_W_allEarned {d Bn : Nat} (hd : 1 ≤ d) (ho : isW o) (hr : WR gg Bn s w) (hB : Bn ≤ 6) : Cl d j_World_allEarned [.ref o] (CWm m0 F I L R H o w) (Pi (mEa s Bn) (CWm m0 F I L R H o w)) := by
  show Rn d j_World_allEarned 0 _ _ _ _
  refine Rn.step (pc' := 1) rfl rfl ?_
  refine Rn.iconst (v := 18) (pc' := 3) rfl (by decide) rfl ?_
  refine Rn.vi (pc' := 6) rfl (by decide) (by omega) rfl (rcvW ho rfl) rfl (c_W_sumOf (f := 18) ho (by omega)) ?_
  exact Rn.iret rfl (rfl) (⟨by rw [sum6_ea hr hB], rfl⟩)
theorem c_W_allChill {d Bn : Nat} (hd : 1 ≤ d) (ho : isW o) (hr : WR gg Bn s w) (hB : Bn ≤ 6) : Cl d j_World_allChill [.ref o] (CWm m0 F I L R H o w) (Pi (mCs s Bn) (CWm m0 F I L R H o w)) := by
  show Rn d j_World_allChill 0 _ _ _ _
  refine Rn.step (pc' := 1) rfl rfl ?_
  refine Rn.iconst (v := 6) (pc' := 3) rfl (by decide) rfl ?_
  refine Rn.vi (pc' := 6) rfl (by decide) (by omega) rfl (rcvW ho rfl) rfl (c_W_sumOf (f := 6) ho (by omega)) ?_
  exact Rn.iret rfl (rfl) (⟨by rw [sum6_ch hr hB], rfl⟩)
end CA
