/-! THE LAW: from its first row to its loop. -/
section NY2
variable {g : Nat → Option xC} {sc : Nat → Int32} {Ls : Nat}
def F00 (k i : Nat) : Int32 := if k = 0 ∧ i = 13 ∨ k = 14 ∧ i = 4 ∨ k = 24 ∧ i = 3 then -1 else 0
def I00 (_ _ : Nat) : Int32 := 0
def L00 (_ _ : Nat) : Int64 := 0
def R00 (_ _ : Nat) : Option Nat := none
def v00 (i : Nat) : Int32 := if i = 21 ∨ i = 23 then -1 else 0
def s00 (_ : Nat) : Int32 := 0
theorem c30_0 : (va_up (va_up (va_up (va_up (va_up (fun _ => none) 0 (some 33)) 1 (some 35)) 2 (some 37)) 3 (some 39)) 4 (some 41) : Nat → Option Nat) = fun i => if i < 5 then some (33 + 2 * i) else none := by
  funext i
  by_cases h4 : i = 4
  · subst h4
    rfl
  · rw [up_ne _ _ h4]
    by_cases h3 : i = 3
    · subst h3
      rfl
    · rw [up_ne _ _ h3]
      by_cases h2 : i = 2
      · subst h2
        rfl
      · rw [up_ne _ _ h2]
        by_cases h1 : i = 1
        · subst h1
          rfl
        · rw [up_ne _ _ h1]
          by_cases h0 : i = 0
          · subst h0
            rfl
          · rw [up_ne _ _ h0, if_neg (by omega)]
set_option maxRecDepth 20000 in
theorem cell_c : ∀ k, k < 50 → (kOne 0)[k]? = ccell F00 I00 L00 R00 .null k := fun k hk => match k, hk with
  | 0, _ => rfl
  | 1, _ => rfl
  | 2, _ => rfl
  | 3, _ => rfl
  | 4, _ => rfl
  | 5, _ => rfl
  | 6, _ => rfl
  | 7, _ => rfl
  | 8, _ => rfl
  | 9, _ => rfl
  | 10, _ => rfl
  | 11, _ => rfl
  | 12, _ => rfl
  | 13, _ => rfl
  | 14, _ => rfl
  | 15, _ => rfl
  | 16, _ => rfl
  | 17, _ => rfl
  | 18, _ => rfl
  | 19, _ => rfl
  | 20, _ => rfl
  | 21, _ => rfl
  | 22, _ => rfl
  | 23, _ => rfl
  | 24, _ => rfl
  | 25, _ => rfl
  | 26, _ => rfl
  | 27, _ => rfl
  | 28, _ => rfl
  | 29, _ => rfl
  | 30, _ => congrArg (fun f => some (Sum.inl (6, 5, xrefs f))) c30_0
  | 31, _ => rfl
  | 32, _ => rfl
  | 33, _ => rfl
  | 34, _ => rfl
  | 35, _ => rfl
  | 36, _ => rfl
  | 37, _ => rfl
  | 38, _ => rfl
  | 39, _ => rfl
  | 40, _ => rfl
  | 41, _ => rfl
  | 42, _ => rfl
  | 43, _ => rfl
  | 44, _ => rfl
  | 45, _ => rfl
  | 46, _ => rfl
  | 47, _ => rfl
  | 48, _ => rfl
  | 49, _ => rfl
  | k + 50, h => absurd h (by omega)
set_option maxRecDepth 20000 in
theorem cell_m : ∀ k, k < 19 → (kModel 50)[k]? = mcell v00 0 (va_up I00 60 s00) L00 (50 + k) := fun k hk => match k, hk with
  | 0, _ => rfl
  | 1, _ => rfl
  | 2, _ => rfl
  | 3, _ => rfl
  | 4, _ => rfl
  | 5, _ => rfl
  | 6, _ => rfl
  | 7, _ => rfl
  | 8, _ => rfl
  | 9, _ => rfl
  | 10, _ => rfl
  | 11, _ => rfl
  | 12, _ => rfl
  | 13, _ => rfl
  | 14, _ => rfl
  | 15, _ => rfl
  | 16, _ => rfl
  | 17, _ => rfl
  | 18, _ => rfl
  | k + 19, h => absurd h (by omega)
theorem mem_0 : NM ((0, 0, g) : xM) (2134 + 5690) (kOne 0 ++ kModel 50) = CC (MS (NM ((0, 0, g) : xM) (2134 + 5690) (kOne 0 ++ kModel 50)) v00 0 I00 L00 s00) F00 I00 L00 R00 .null := by
  have l1 : (kOne 0).length = 50 := rfl
  have l2 : (kModel 50).length = 19 := rfl
  refine Prod.ext rfl (Prod.ext rfl (funext fun k => ?_))
  show (NM ((0, 0, g) : xM) (2134 + 5690) (kOne 0 ++ kModel 50)).2.2 k = if k < 50 then ccell F00 I00 L00 R00 .null k else if 50 ≤ k ∧ k < 69 then mcell v00 0 (va_up I00 60 s00) L00 k else (NM ((0, 0, g) : xM) (2134 + 5690) (kOne 0 ++ kModel 50)).2.2 k
  have ll : (kOne 0 ++ kModel 50).length = 69 := by rw [List.length_append, l1, l2]
  have e : ∀ k, k < 69 → (NM ((0, 0, g) : xM) (2134 + 5690) (kOne 0 ++ kModel 50)).2.2 k = (kOne 0 ++ kModel 50)[k]? := fun k hk => by
    have := NM_at (m := ((0, 0, g) : xM)) (sl := 2134 + 5690) (f := kOne 0 ++ kModel 50) (i := k) (by rw [ll]; exact hk)
    rw [show ((0, 0, g) : xM).1 + k = k from Nat.zero_add k] at this
    exact this
  by_cases h1 : k < 50
  · rw [if_pos h1, e k (by omega), List.getElem?_append_left (by rw [l1]; exact h1)]
    exact cell_c k h1
  · rw [if_neg h1]
    by_cases h2 : 50 ≤ k ∧ k < 69
    · rw [if_pos h2, e k h2.2, List.getElem?_append_right (by rw [l1]; exact h2.1), l1, cell_m (k - 50) (by omega), show 50 + (k - 50) = k by omega]
    · rw [if_neg h2]
theorem inv_0 (hS : STR0 ((0, 0, g) : xM)) (hs : g (xS + 60) = some (.inl (0, Ls, xints sc))) : INV 0 sc Ls (NM ((0, 0, g) : xM) (2134 + 5690) (kOne 0 ++ kModel 50)) := by
  have ll : (kOne 0 ++ kModel 50).length = 69 := by rw [List.length_append]; rfl
  have hx : xS = 1000000 := rfl
  have lo : ∀ k, 69 ≤ k → (NM ((0, 0, g) : xM) (2134 + 5690) (kOne 0 ++ kModel 50)).2.2 k = g k := fun k hk => NM_lo (Or.inr (by rw [ll]; show 0 + 69 ≤ k; omega))
  refine ⟨NM ((0, 0, g) : xM) (2134 + 5690) (kOne 0 ++ kModel 50), v00, 0, I00, L00, s00, F00, I00, L00, R00, .null, 0, 0, 0, 0, 0, 0, 0, 0, 0, fun _ => (fun _ => (0, 0), 0, []), I00, fun _ => I00, mem_0, (lo _ (by omega)).trans hs, ⟨rfl, rfl, by omega, rfl, fun i => ⟨show (-128 : Int32) ≤ 0 by decide, show (0 : Int32) ≤ 127 by decide⟩⟩, ⟨Or.inr ⟨rfl, rfl, rfl, rfl, rfl, rfl, rfl, rfl⟩, ⟨rfl, rfl, rfl, rfl, rfl, rfl, rfl, fun x hx => absurd hx (Nat.not_lt_zero _), fun x hx => absurd hx (Nat.not_lt_zero _), fun x hx => absurd hx (Nat.not_lt_zero _), fun x hx => absurd hx (Nat.not_lt_zero _), fun x hx => absurd hx (Nat.not_lt_zero _)⟩, fun x hx => absurd hx (Nat.not_lt_zero _), ⟨fun x hx => absurd hx (Nat.not_lt_zero _), fun x hx => absurd hx (Nat.not_lt_zero _), fun x hx => absurd hx (Nat.not_lt_zero _), fun x hx => absurd hx (Nat.not_lt_zero _), fun _ _ => rfl, fun _ _ _ => rfl, fun _ _ => rfl, rfl, rfl, fun _ => rfl, fun _ _ _ => ⟨rfl, rfl⟩⟩, ⟨rfl, by omega, rfl, fun x hx => absurd hx (Nat.not_lt_zero _), fun x hx => absurd hx (Nat.not_lt_zero _), fun x hx => absurd hx (Nat.not_lt_zero _)⟩, 0, by omega, rfl⟩, ⟨rfl, rfl, by omega, rfl, Or.inl rfl, rfl, by decide, rfl, rfl⟩, ⟨rfl, fun x hx => absurd hx (Nat.not_lt_zero _), ⟨rfl, by omega, rfl, by omega, fun x hx => absurd hx (Nat.not_lt_zero _)⟩, fun x hx => absurd hx (Nat.not_lt_zero _)⟩, fun x hx => absurd hx (Nat.not_lt_zero _), fun k _ => Or.inl ⟨rfl, rfl⟩, ⟨fun x _ _ _ hx => absurd hx (Nat.not_lt_zero _), ?_⟩, ⟨fun k hk => ?_, ?_, ?_⟩⟩
  · intro k k' i i' _ _ _ e _
    exact nomatch e
  · rw [lo _ (by omega), lo _ (by omega)]
    exact hS k hk
  · show 0 + (kOne 0 ++ kModel 50).length = _
    rw [ll]
    rfl
  · show 0 + (2134 + 5690) ≤ _
    omega
set_option maxRecDepth 30000 in
theorem law_0 (hL : Ls ≤ 3584) (hS : STR0 ((0, 0, g) : xM)) (hs : g (xS + 60) = some (.inl (0, Ls, xints sc))) : Rn 60 j_L_law 0 [.ref (xS + 60), xb, xb, xb] [] ((0, 0, g) : xM) (fun o m => o = some (.int 1) ∧ m.1 ≤ 1000 ∧ m.2.1 ≤ 20000) := by
  have hx : xS = 1000000 := rfl
  refine Rn.mm NM_nil.symm ?_
  refine Rn.newI (n := 0) (s1 := 2134) (cells := kOne) (pc1 := 3) (pc2 := 4) (pc3 := 7) (f' := kOne 0) rfl rfl rfl rfl rfl rfl (by decide) rfl (by show 0 + 0 < xS; omega) (by omega) rfl (fun m' hm' => c_kOne (by omega) (by rw [hm']; show 0 + 0 + 51 ≤ xS; omega)) rfl ?_
  refine Rn.step (pc' := 8) rfl rfl ?_
  refine Rn.newI (n := 50) (s1 := 5690) (cells := kModel) (pc1 := 11) (pc2 := 12) (pc3 := 15) (f' := kOne 0 ++ kModel 50) rfl rfl rfl rfl rfl rfl (by decide) rfl (by show 0 + 50 < xS; omega) (by omega) rfl (fun m' hm' => c_kModel (by omega) (by rw [hm']; show 0 + 50 + 20 ≤ xS; omega)) rfl ?_
  refine Rn.step (pc' := 16) rfl rfl ?_
  refine Rn.iconst (v := 0) (pc' := 17) rfl (by decide) rfl ?_
  refine Rn.step (pc' := 18) rfl rfl ?_
  exact l_law hL 0 (Nat.zero_le _) _ (by rw [Nat.zero_add]; exact inv_0 hS hs)
end NY2
