/-! THE LAW, INSTRUCTION BY INSTRUCTION, BY THE KERNEL. -/
theorem xcb_app {j : Nat} : ∀ (a b : List (Option (Instr × Nat))) (p0 : Nat), xcb j p0 a = true → xcb j (p0 + a.length) b = true → xcb j p0 (a ++ b) = true
  | [], b, p0, _, h => h
  | none :: r, b, p0, h1, h2 => xcb_app r b (p0 + 1) h1 (by rw [show p0 + 1 + r.length = p0 + (none :: r : List (Option (Instr × Nat))).length by simp; omega]; exact h2)
  | some (i, len) :: r, b, p0, h1, h2 => by
    simp only [xcb, Bool.and_eq_true] at h1
    simp only [List.cons_append, xcb, Bool.and_eq_true]
    exact ⟨h1.1, xcb_app r b (p0 + 1) h1.2 (by rw [show p0 + 1 + r.length = p0 + (some (i, len) :: r).length by simp; omega]; exact h2)⟩
theorem xcb_app' {j p0 q : Nat} {a b : List (Option (Instr × Nat))} (h1 : xcb j p0 a = true) (hq : p0 + a.length = q) (h2 : xcb j q b = true) : xcb j p0 (a ++ b) = true := xcb_app a b p0 h1 (by rw [hq]; exact h2)
theorem xcb_258_0 : xcb 258 0 xg258_0 = true := by decide +kernel
theorem xcb_258_1 : xcb 258 130 xg258_1 = true := by decide +kernel
theorem xcb_258_2 : xcb 258 260 xg258_2 = true := by decide +kernel
theorem xcb_258_3 : xcb 258 390 xg258_3 = true := by decide +kernel
theorem xcb_258_4 : xcb 258 520 xg258_4 = true := by decide +kernel
theorem xcb_258_5 : xcb 258 650 xg258_5 = true := by decide +kernel
theorem xcb_258_6 : xcb 258 780 xg258_6 = true := by decide +kernel
theorem xcb_258_7 : xcb 258 910 xg258_7 = true := by decide +kernel
theorem xcb_258_8 : xcb 258 1040 xg258_8 = true := by decide +kernel
theorem xcb_258 : xcb 258 0 xg258 = true := xcb_app' xcb_258_0 (by decide +kernel) (xcb_app' xcb_258_1 (by decide +kernel) (xcb_app' xcb_258_2 (by decide +kernel) (xcb_app' xcb_258_3 (by decide +kernel) (xcb_app' xcb_258_4 (by decide +kernel) (xcb_app' xcb_258_5 (by decide +kernel) (xcb_app' xcb_258_6 (by decide +kernel) (xcb_app' xcb_258_7 (by decide +kernel) (xcb_258_8))))))))
