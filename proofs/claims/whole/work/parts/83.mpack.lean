/-! THE MODEL: letters, packed into one number. -/
section MO
variable {m0 : xM} {v : Nat → Int32} {dx : Int64} {A : Nat → Nat → Int32} {LA : Nat → Nat → Int64} {s : Nat → Int32}
def pkD (T : Nat → Int32) (p : Nat) : Nat → Nat
  | 0 => 0
  | k + 1 => pkD T p k * 256 + (T (p + k)).toNatClampNeg
def pkW (x : List Nat) : Nat := x.foldl (fun a c => a * 256 + c) 0
theorem nil_or_last (x : List Nat) : x = [] ∨ ∃ y c, x = y ++ [c] := by
  rcases List.eq_nil_or_concat x with h | ⟨y, c, h⟩
  · exact Or.inl h
  · exact Or.inr ⟨y, c, by rw [h, List.concat_eq_append]⟩
theorem pkW_c (y : List Nat) (c : Nat) : pkW (y ++ [c]) = pkW y * 256 + c := by
  unfold pkW
  rw [List.foldl_append]
  rfl
theorem pk_inj {T : Nat → Int32} {p : Nat} : ∀ (k : Nat) (x : List Nat), (∀ j, j < k → ∃ c, 0 < c ∧ c < 256 ∧ T (p + j) = nI c) → (∀ c, c ∈ x → 0 < c ∧ c < 256) → (pkD T p k = pkW x ↔ k = x.length ∧ ∀ j, j < x.length → T (p + j) = nI (x.getD j 0))
  | 0, x, _, hx => by
    rcases nil_or_last x with rfl | ⟨y, c, rfl⟩
    · exact ⟨fun _ => ⟨rfl, fun j hj => absurd hj (Nat.not_lt_zero _)⟩, fun _ => rfl⟩
    · have hc := hx c (List.mem_append_right _ (List.mem_singleton.mpr rfl))
      rw [pkW_c, List.length_append, List.length_singleton]
      exact ⟨fun z => absurd (show 0 = pkW y * 256 + c from z) (by omega), fun z => absurd z.1 (by omega)⟩
  | k + 1, x, hT, hx => by
    obtain ⟨b, b0, b1, eb⟩ := hT k (Nat.lt_succ_self _)
    have e1 : pkD T p (k + 1) = pkD T p k * 256 + b := by
      show pkD T p k * 256 + (T (p + k)).toNatClampNeg = _
      rw [eb, nI_clamp (by omega)]
    rcases nil_or_last x with rfl | ⟨y, c, rfl⟩
    · rw [e1]
      exact ⟨fun z => absurd (show pkD T p k * 256 + b = 0 from z) (by omega), fun z => absurd z.1 (Nat.succ_ne_zero _)⟩
    · have hc := hx c (List.mem_append_right _ (List.mem_singleton.mpr rfl))
      have ih := pk_inj k y (fun j hj => hT j (by omega)) (fun z hz => hx z (List.mem_append_left _ hz))
      rw [e1, pkW_c, List.length_append, List.length_singleton]
      constructor
      · intro h
        have h1 : pkD T p k = pkW y := by omega
        have h2 : b = c := by omega
        obtain ⟨l1, l2⟩ := ih.mp h1
        refine ⟨by omega, fun j hj => ?_⟩
        by_cases e : j = y.length
        · subst e
          rw [List.getD_eq_getElem?_getD, List.getElem?_append_right (Nat.le_refl _), Nat.sub_self, ← l1, eb, h2]
          rfl
        · rw [List.getD_eq_getElem?_getD, List.getElem?_append_left (by omega), ← List.getD_eq_getElem?_getD]
          exact l2 j (by omega)
      · intro h
        have l1 : k = y.length := by omega
        have l2 := h.2 y.length (by omega)
        rw [List.getD_eq_getElem?_getD, List.getElem?_append_right (Nat.le_refl _), Nat.sub_self, ← l1, eb] at l2
        have h2 : b = c := (nI_eq (by omega) (by omega)).mp l2
        have h1 : pkD T p k = pkW y := ih.mpr ⟨l1, fun j hj => by
          have := h.2 j (by omega)
          rw [List.getD_eq_getElem?_getD, List.getElem?_append_left (by omega), ← List.getD_eq_getElem?_getD] at this
          exact this⟩
        omega
end MO
