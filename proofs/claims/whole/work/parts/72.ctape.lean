/-! THE TEXT: tokens; the class: next, open, the words of its lists. -/
section CX
variable {m0 : xM} {F I : Nat → Nat → Int32} {L : Nat → Nat → Int64} {R : Nat → Nat → Option Nat} {H : Value} {s w : Nat → Int32} {o : Nat} {gg : Prop}
def sgL : List (List Nat) := [[108, 97, 110, 101, 32, 98, 114, 111, 116, 104, 101, 114, 32, 119, 101, 116, 32, 102, 114, 111, 115, 116, 32, 119, 97, 110, 116, 32, 115, 111, 108, 101, 32, 98, 111, 111, 116, 115],
  [119, 97, 108, 107],
  [98, 114, 111, 116, 104, 101, 114, 32, 112, 108, 97, 99, 101, 32, 104, 111, 109, 101, 32, 115, 105, 122, 101, 32, 104, 111, 117, 114, 32, 100, 97, 121, 32, 103, 111, 97, 108, 32, 112, 97, 121, 32, 117, 110, 116, 105, 108, 32, 119, 101, 116, 32, 102, 114, 111, 115, 116, 32, 98, 111, 111, 116, 115, 32, 99, 104, 105, 108, 108, 32, 111, 116, 104, 101, 114, 115, 32, 108, 121, 105, 110, 103],
  [105, 102],
  [110, 111, 116],
  [97, 110, 100, 32, 111, 114]]
def ws0 : List (List Nat) := [[108, 97, 110, 101], [98, 114, 111, 116, 104, 101, 114], [119, 101, 116], [102, 114, 111, 115, 116], [119, 97, 110, 116], [115, 111, 108, 101], [98, 111, 111, 116, 115]]
def ws1 : List (List Nat) := [[119, 97, 108, 107]]
def ws2 : List (List Nat) := [[98, 114, 111, 116, 104, 101, 114], [112, 108, 97, 99, 101], [104, 111, 109, 101], [115, 105, 122, 101], [104, 111, 117, 114], [100, 97, 121], [103, 111, 97, 108], [112, 97, 121], [117, 110, 116, 105, 108], [119, 101, 116], [102, 114, 111, 115, 116], [98, 111, 111, 116, 115], [99, 104, 105, 108, 108], [111, 116, 104, 101, 114, 115], [108, 121, 105, 110, 103]]
def ws3 : List (List Nat) := [[105, 102]]
def ws4 : List (List Nat) := [[110, 111, 116]]
def ws5 : List (List Nat) := [[97, 110, 100], [111, 114]]
def sgN (k i : Nat) : Nat := (sgL.getD k []).getD i 0
/-- the strings lie in the base -/
def STR0 (m0 : xM) : Prop := ∀ k, k < 6 → m0.2.2 (xS + 2 * k) = some (.inr (90, [.ref (xS + (2 * k + 1)), .int 0])) ∧ m0.2.2 (xS + (2 * k + 1)) = some (.inl (1, xlens.getD k 0, xints fun j => (xbyt.getD k []).getD j 0))
theorem str_all : ∀ k, k < 6 → xlens.getD k 0 ≤ 100 ∧ ∀ i, i < xlens.getD k 0 → (xbyt.getD k []).getD i 0 = nI (sgN k i) ∧ sgN k i < 128 := by decide +kernel
theorem STR0.str (h : STR0 m0) {k : Nat} (hk : k < 6) : Str (CC m0 F I L R H) (xS + 2 * k) (xlens.getD k 0) (sgN k) :=
  ⟨xS + (2 * k + 1), fun j => (xbyt.getD k []).getD j 0, (CC_out (by unfold xS; omega)).trans (h k hk).1, (CC_out (by unfold xS; omega)).trans (h k hk).2, (str_all k hk).1, (str_all k hk).2⟩
section WI
variable {T : Nat → Int32} {g : Nat → Nat} {N p q : Nat}
theorem wiL_w (x : List Nat) (f fr k : Nat) (hx : ∀ j, j < x.length → g (fr + j) = x.getD j 0 ∧ ¬ g (fr + j) = 32 ∧ ¬ fr + j = N) (he : fr + x.length = N ∨ g (fr + x.length) = 32) (j : Nat) (hj : j ≤ x.length) : wiL T g N p q (f + 1 + (x.length - j)) (fr + j) fr k = if wdP T p q x then nI k else wiL T g N p q f (fr + x.length + 1) (fr + x.length + 1) (k + 1) := by
  by_cases e : j = x.length
  · subst e
    rw [Nat.sub_self]
    show (if fr + x.length = N ∨ g (fr + x.length) = 32 then (if pWd T g p q fr (fr + x.length) then nI k else _) else _) = _
    rw [if_pos he]
    have := pWd_wd (T := T) (g := g) (p := p) (q := q) (fr := fr) (to := fr + x.length) (x := x) (by omega) (fun k hk => (hx k hk).1)
    by_cases hw : wdP T p q x
    · rw [if_pos hw, if_pos (this.mpr hw)]
    · rw [if_neg hw, if_neg (mt this.mp hw)]
  · rw [show f + 1 + (x.length - j) = f + 1 + (x.length - (j + 1)) + 1 by omega]
    have h := hx j (by omega)
    show (if fr + j = N ∨ g (fr + j) = 32 then _ else wiL T g N p q (f + 1 + (x.length - (j + 1))) (fr + j + 1) fr k) = _
    rw [if_neg (fun z => z.elim h.2.2 h.2.1), Nat.add_assoc fr j 1]
    exact wiL_w x f fr k hx he (j + 1) (by omega)
termination_by x.length - j
end WI
theorem wi_0 (T : Nat → Int32) (p q : Nat) : wiL T (sgN 0) 38 p q 39 0 0 0 = wix T p q ws0 0 :=
  (wiL_w (T := T) (g := sgN 0) (N := 38) (p := p) (q := q) [108, 97, 110, 101] 34 0 0 (by decide) (by decide) 0 (Nat.zero_le _)).trans (congrArg (fun z => if wdP T p q [108, 97, 110, 101] then nI 0 else z) (
  (wiL_w (T := T) (g := sgN 0) (N := 38) (p := p) (q := q) [98, 114, 111, 116, 104, 101, 114] 26 5 1 (by decide) (by decide) 0 (Nat.zero_le _)).trans (congrArg (fun z => if wdP T p q [98, 114, 111, 116, 104, 101, 114] then nI 1 else z) (
  (wiL_w (T := T) (g := sgN 0) (N := 38) (p := p) (q := q) [119, 101, 116] 22 13 2 (by decide) (by decide) 0 (Nat.zero_le _)).trans (congrArg (fun z => if wdP T p q [119, 101, 116] then nI 2 else z) (
  (wiL_w (T := T) (g := sgN 0) (N := 38) (p := p) (q := q) [102, 114, 111, 115, 116] 16 17 3 (by decide) (by decide) 0 (Nat.zero_le _)).trans (congrArg (fun z => if wdP T p q [102, 114, 111, 115, 116] then nI 3 else z) (
  (wiL_w (T := T) (g := sgN 0) (N := 38) (p := p) (q := q) [119, 97, 110, 116] 11 23 4 (by decide) (by decide) 0 (Nat.zero_le _)).trans (congrArg (fun z => if wdP T p q [119, 97, 110, 116] then nI 4 else z) (
  (wiL_w (T := T) (g := sgN 0) (N := 38) (p := p) (q := q) [115, 111, 108, 101] 6 28 5 (by decide) (by decide) 0 (Nat.zero_le _)).trans (congrArg (fun z => if wdP T p q [115, 111, 108, 101] then nI 5 else z) (
  (wiL_w (T := T) (g := sgN 0) (N := 38) (p := p) (q := q) [98, 111, 111, 116, 115] 0 33 6 (by decide) (by decide) 0 (Nat.zero_le _)).trans (congrArg (fun z => if wdP T p q [98, 111, 111, 116, 115] then nI 6 else z) ( rfl))))))))))))))
theorem wi_1 (T : Nat → Int32) (p q : Nat) : wiL T (sgN 1) 4 p q 5 0 0 0 = wix T p q ws1 0 :=
  (wiL_w (T := T) (g := sgN 1) (N := 4) (p := p) (q := q) [119, 97, 108, 107] 0 0 0 (by decide) (by decide) 0 (Nat.zero_le _)).trans (congrArg (fun z => if wdP T p q [119, 97, 108, 107] then nI 0 else z) ( rfl))
theorem wi_2 (T : Nat → Int32) (p q : Nat) : wiL T (sgN 2) 82 p q 83 0 0 0 = wix T p q ws2 0 :=
  (wiL_w (T := T) (g := sgN 2) (N := 82) (p := p) (q := q) [98, 114, 111, 116, 104, 101, 114] 75 0 0 (by decide) (by decide) 0 (Nat.zero_le _)).trans (congrArg (fun z => if wdP T p q [98, 114, 111, 116, 104, 101, 114] then nI 0 else z) (
  (wiL_w (T := T) (g := sgN 2) (N := 82) (p := p) (q := q) [112, 108, 97, 99, 101] 69 8 1 (by decide) (by decide) 0 (Nat.zero_le _)).trans (congrArg (fun z => if wdP T p q [112, 108, 97, 99, 101] then nI 1 else z) (
  (wiL_w (T := T) (g := sgN 2) (N := 82) (p := p) (q := q) [104, 111, 109, 101] 64 14 2 (by decide) (by decide) 0 (Nat.zero_le _)).trans (congrArg (fun z => if wdP T p q [104, 111, 109, 101] then nI 2 else z) (
  (wiL_w (T := T) (g := sgN 2) (N := 82) (p := p) (q := q) [115, 105, 122, 101] 59 19 3 (by decide) (by decide) 0 (Nat.zero_le _)).trans (congrArg (fun z => if wdP T p q [115, 105, 122, 101] then nI 3 else z) (
  (wiL_w (T := T) (g := sgN 2) (N := 82) (p := p) (q := q) [104, 111, 117, 114] 54 24 4 (by decide) (by decide) 0 (Nat.zero_le _)).trans (congrArg (fun z => if wdP T p q [104, 111, 117, 114] then nI 4 else z) (
  (wiL_w (T := T) (g := sgN 2) (N := 82) (p := p) (q := q) [100, 97, 121] 50 29 5 (by decide) (by decide) 0 (Nat.zero_le _)).trans (congrArg (fun z => if wdP T p q [100, 97, 121] then nI 5 else z) (
  (wiL_w (T := T) (g := sgN 2) (N := 82) (p := p) (q := q) [103, 111, 97, 108] 45 33 6 (by decide) (by decide) 0 (Nat.zero_le _)).trans (congrArg (fun z => if wdP T p q [103, 111, 97, 108] then nI 6 else z) (
  (wiL_w (T := T) (g := sgN 2) (N := 82) (p := p) (q := q) [112, 97, 121] 41 38 7 (by decide) (by decide) 0 (Nat.zero_le _)).trans (congrArg (fun z => if wdP T p q [112, 97, 121] then nI 7 else z) (
  (wiL_w (T := T) (g := sgN 2) (N := 82) (p := p) (q := q) [117, 110, 116, 105, 108] 35 42 8 (by decide) (by decide) 0 (Nat.zero_le _)).trans (congrArg (fun z => if wdP T p q [117, 110, 116, 105, 108] then nI 8 else z) (
  (wiL_w (T := T) (g := sgN 2) (N := 82) (p := p) (q := q) [119, 101, 116] 31 48 9 (by decide) (by decide) 0 (Nat.zero_le _)).trans (congrArg (fun z => if wdP T p q [119, 101, 116] then nI 9 else z) (
  (wiL_w (T := T) (g := sgN 2) (N := 82) (p := p) (q := q) [102, 114, 111, 115, 116] 25 52 10 (by decide) (by decide) 0 (Nat.zero_le _)).trans (congrArg (fun z => if wdP T p q [102, 114, 111, 115, 116] then nI 10 else z) (
  (wiL_w (T := T) (g := sgN 2) (N := 82) (p := p) (q := q) [98, 111, 111, 116, 115] 19 58 11 (by decide) (by decide) 0 (Nat.zero_le _)).trans (congrArg (fun z => if wdP T p q [98, 111, 111, 116, 115] then nI 11 else z) (
  (wiL_w (T := T) (g := sgN 2) (N := 82) (p := p) (q := q) [99, 104, 105, 108, 108] 13 64 12 (by decide) (by decide) 0 (Nat.zero_le _)).trans (congrArg (fun z => if wdP T p q [99, 104, 105, 108, 108] then nI 12 else z) (
  (wiL_w (T := T) (g := sgN 2) (N := 82) (p := p) (q := q) [111, 116, 104, 101, 114, 115] 6 70 13 (by decide) (by decide) 0 (Nat.zero_le _)).trans (congrArg (fun z => if wdP T p q [111, 116, 104, 101, 114, 115] then nI 13 else z) (
  (wiL_w (T := T) (g := sgN 2) (N := 82) (p := p) (q := q) [108, 121, 105, 110, 103] 0 77 14 (by decide) (by decide) 0 (Nat.zero_le _)).trans (congrArg (fun z => if wdP T p q [108, 121, 105, 110, 103] then nI 14 else z) ( rfl))))))))))))))))))))))))))))))
theorem wi_3 (T : Nat → Int32) (p q : Nat) : wiL T (sgN 3) 2 p q 3 0 0 0 = wix T p q ws3 0 :=
  (wiL_w (T := T) (g := sgN 3) (N := 2) (p := p) (q := q) [105, 102] 0 0 0 (by decide) (by decide) 0 (Nat.zero_le _)).trans (congrArg (fun z => if wdP T p q [105, 102] then nI 0 else z) ( rfl))
theorem wi_4 (T : Nat → Int32) (p q : Nat) : wiL T (sgN 4) 3 p q 4 0 0 0 = wix T p q ws4 0 :=
  (wiL_w (T := T) (g := sgN 4) (N := 3) (p := p) (q := q) [110, 111, 116] 0 0 0 (by decide) (by decide) 0 (Nat.zero_le _)).trans (congrArg (fun z => if wdP T p q [110, 111, 116] then nI 0 else z) ( rfl))
theorem wi_5 (T : Nat → Int32) (p q : Nat) : wiL T (sgN 5) 6 p q 7 0 0 0 = wix T p q ws5 0 :=
  (wiL_w (T := T) (g := sgN 5) (N := 6) (p := p) (q := q) [97, 110, 100] 3 0 0 (by decide) (by decide) 0 (Nat.zero_le _)).trans (congrArg (fun z => if wdP T p q [97, 110, 100] then nI 0 else z) (
  (wiL_w (T := T) (g := sgN 5) (N := 6) (p := p) (q := q) [111, 114] 0 4 1 (by decide) (by decide) 0 (Nat.zero_le _)).trans (congrArg (fun z => if wdP T p q [111, 114] then nI 1 else z) ( rfl))))
/-- the first byte of what stands at p -/
abbrev fcE (T : Nat → Int32) (p : Nat) : Int32 := T p &&& 255
/-- what stands at p: nothing, a word, a number, a sign -/
def kdE (T : Nat → Int32) (n p : Nat) : Nat := if n ≤ p then 0 else if 97 ≤ fcE T p ∧ fcE T p ≤ 122 then 1 else if 48 ≤ fcE T p ∧ fcE T p ≤ 57 then 2 else 3
/-- a sign of two bytes -/
abbrev twE (T : Nat → Int32) (n p : Nat) : Prop := (fcE T p = 60 ∨ fcE T p = 62) ∧ p + 1 < n ∧ T (p + 1) = 61
def tkE (T : Nat → Int32) (n p : Nat) : Nat := if kdE T n p = 0 then p else if kdE T n p = 1 then leE T n p else if kdE T n p = 2 then rnE 48 57 T n p else if twE T n p then p + 2 else p + 1
def dvE (T : Nat → Int32) : Nat → Nat → Int32 → Int32
  | 0, _, a => a
  | f + 1, i, a => dvE T f (i + 1) (a * 10 + T i - 48)
def vlE (T : Nat → Int32) (n p : Nat) : Int32 := if kdE T n p = 2 then dvE T (min 5 (rnE 48 57 T n p - p)) p 0 else if kdE T n p = 3 then (if twE T n p then fcE T p + 256 else fcE T p) else 0
section KD
variable {T : Nat → Int32} {n p : Nat}
theorem kd0 (h : n ≤ p) : kdE T n p = 0 := if_pos h
theorem kd1 (h : ¬ n ≤ p) (h1 : 97 ≤ fcE T p ∧ fcE T p ≤ 122) : kdE T n p = 1 := by unfold kdE; rw [if_neg h, if_pos h1]
theorem kd2 (h : ¬ n ≤ p) (h1 : ¬ (97 ≤ fcE T p ∧ fcE T p ≤ 122)) (h2 : 48 ≤ fcE T p ∧ fcE T p ≤ 57) : kdE T n p = 2 := by unfold kdE; rw [if_neg h, if_neg h1, if_pos h2]
theorem kd3 (h : ¬ n ≤ p) (h1 : ¬ (97 ≤ fcE T p ∧ fcE T p ≤ 122)) (h2 : ¬ (48 ≤ fcE T p ∧ fcE T p ≤ 57)) : kdE T n p = 3 := by unfold kdE; rw [if_neg h, if_neg h1, if_neg h2]
theorem tz0 (h : kdE T n p = 0) : tkE T n p = p ∧ vlE T n p = 0 := by
  unfold tkE vlE
  rw [h]
  exact ⟨rfl, rfl⟩
theorem tz1 (h : kdE T n p = 1) : tkE T n p = leE T n p ∧ vlE T n p = 0 := by
  unfold tkE vlE
  rw [h]
  exact ⟨rfl, rfl⟩
theorem tz2 (h : kdE T n p = 2) : tkE T n p = rnE 48 57 T n p ∧ vlE T n p = dvE T (min 5 (rnE 48 57 T n p - p)) p 0 := by
  unfold tkE vlE
  rw [h]
  exact ⟨rfl, rfl⟩
theorem tz3 (h : kdE T n p = 3) (ht : twE T n p) : tkE T n p = p + 2 ∧ vlE T n p = fcE T p + 256 := by
  unfold tkE vlE
  rw [h, if_pos ht, if_pos ht]
  exact ⟨rfl, rfl⟩
theorem tz4 (h : kdE T n p = 3) (ht : ¬ twE T n p) : tkE T n p = p + 1 ∧ vlE T n p = fcE T p := by
  unfold tkE vlE
  rw [h, if_neg ht, if_neg ht]
  exact ⟨rfl, rfl⟩
end KD
/-- the tape's head stands at p -/
abbrev TP (f T : Nat → Int32) (n p : Nat) : Prop := f 1 = nI n ∧ f 3 = nI (kdE T n p) ∧ f 4 = nI p ∧ f 5 = nI (tkE T n p) ∧ f 6 = vlE T n p
theorem l_T_dig {d p q : Nat} {x : Int32} (h4 : p ≤ q ∧ q ≤ 400) (f : Nat → Int32) (hp : f 4 = nI p) (hq : f 5 = nI q) (i : Nat) (hi : p ≤ i ∧ i ≤ q ∧ i ≤ p + 5) : Rn d j_Tape_next 134 [.ref 1, .int x, .int (nI i)] [] (CC m0 (va_up F 1 f) I L R H) (fun r m2 => r = none ∧ ∃ f1, m2 = (CC m0 (va_up F 1 f1) I L R H) ∧ (∀ k, k ≠ 6 → f1 k = f k) ∧ f1 6 = dvE (I 2) (min 5 (q - p) - (i - p)) (i) (f 6)) := by
  refine Rn.step (pc' := 135) rfl rfl ?_
  refine Rn.step (pc' := 136) rfl rfl ?_
  refine Rn.getf (pc' := 139) rfl rfl rfl rfl rfl ?_
  refine Rn.icmp_ge (pc1 := 179) (pc2 := 142) rfl rfl rfl (fun h139 => ?_) (fun h139 => ?_)
  · refine Rn.step (pc' := 261) rfl rfl ?_
    exact Rn.vret rfl (⟨rfl, f, rfl, fun _ _ => rfl, by rw [show min 5 (q - p) - (i - p) = 0 by have := nI_up (k := i) (N := q) (by omega) hi.2.1 (by rw [← hq]; exact h139); omega]; rfl⟩)
  · have a1 : ¬ nI q ≤ nI i := fun z => h139 (show f 5 ≤ nI i by rw [hq]; exact z)
    have a2 : i < q := nI_dn (by omega) hi.2.1 a1
    refine Rn.step (pc' := 143) rfl rfl ?_
    refine Rn.step (pc' := 144) rfl rfl ?_
    refine Rn.getf (pc' := 147) rfl rfl rfl rfl rfl ?_
    refine Rn.iconst (v := 5) (pc' := 148) rfl (by decide) rfl ?_
    refine Rn.iadd (pc' := 149) rfl rfl ?_
    refine Rn.icmp_ge (pc1 := 179) (pc2 := 152) rfl rfl rfl (fun h149 => ?_) (fun h149 => ?_)
    · refine Rn.step (pc' := 261) rfl rfl ?_
      exact Rn.vret rfl (⟨rfl, f, rfl, fun _ _ => rfl, by rw [show min 5 (q - p) - (i - p) = 0 by have := nI_up (k := i) (N := p + 5) (by omega) hi.2.2 (by rw [← nI_add, ← hp]; exact h149); omega]; rfl⟩)
    · have a3 : ¬ nI (p + 5) ≤ nI i := fun z => h149 (show f 4 + 5 ≤ nI i by rw [hp, nI_lit, nI_add]; exact z)
      have a4 : i < p + 5 := nI_dn (by omega) hi.2.2 a3
      refine Rn.step (pc' := 153) rfl rfl ?_
      refine Rn.step (pc' := 154) rfl rfl ?_
      refine Rn.getf (pc' := 157) rfl rfl rfl rfl rfl ?_
      refine Rn.iconst (v := 10) (pc' := 159) rfl (by decide) rfl ?_
      refine Rn.imul (pc' := 160) rfl rfl ?_
      refine Rn.step (pc' := 161) rfl rfl ?_
      refine Rn.getf (pc' := 164) rfl rfl rfl rfl rfl ?_
      refine Rn.step (pc' := 165) rfl rfl ?_
      refine Rn.cbald (k := i) (pc' := 166) rfl rfl (rfl) (by omega) (rfl) (by decide) rfl ?_
      refine Rn.iadd (pc' := 167) rfl rfl ?_
      refine Rn.iconst (v := 48) (pc' := 169) rfl (by decide) rfl ?_
      refine Rn.isub (pc' := 170) rfl rfl ?_
      refine Rn.cput (pc' := 173) rfl rfl rfl rfl rfl (by decide) rfl ?_
      rw [va_up_self, up_up]
      refine Rn.step (pc' := 176) rfl rfl ?_
      refine Rn.step (pc' := 134) rfl rfl ?_
      refine Rn.ls3 rfl rfl (congrArg Value.int (nI_i1 i)) ?_
      refine Rn.conseq (l_T_dig (p := p) (q := q) (x := x) h4 (upd f 6 (f 6 * 10 + I 2 i - 48)) hp hq (i + 1) (by omega)) ?_
      rintro r m2 ⟨rfl, f1, rfl, e1, e2⟩
      refine ⟨rfl, f1, rfl, fun k hk => (e1 k hk).trans (if_neg hk), e2.trans ?_⟩
      rw [show min 5 (q - p) - (i - p) = min 5 (q - p) - (i + 1 - p) + 1 by omega]
      rfl
termination_by q - i
set_option maxHeartbeats 4000000 in
theorem c_T_next {d n q : Nat} (hd : 1 ≤ d) (hn : F 1 1 = nI n) (h4 : n ≤ 400) (hq : F 1 5 = nI q) (hq4 : q ≤ n) : Cl d j_Tape_next [.ref 1] (CC m0 F I L R H) (fun r m2 => r = none ∧ ∃ f1, m2 = (CC m0 (va_up F 1 f1) I L R H) ∧ TP f1 (I 2) n (skE (I 2) n q) ∧ f1 2 = F 1 2) := by
  show Rn d j_Tape_next 0 _ _ _ _
  obtain ⟨p, ep⟩ : ∃ p, p = skE (I 2) n q := ⟨_, rfl⟩
  have hp4 : p ≤ n := ep ▸ rnE_le hq4
  rw [← ep]
  refine Rn.step (pc' := 1) rfl rfl ?_
  refine Rn.step (pc' := 2) rfl rfl ?_
  refine Rn.step (pc' := 3) rfl rfl ?_
  refine Rn.getf (pc' := 6) rfl rfl rfl rfl rfl ?_
  refine Rn.iconst (v := 32) (pc' := 8) rfl (by decide) rfl ?_
  refine Rn.iconst (v := 32) (pc' := 10) rfl (by decide) rfl ?_
  rw [hq]
  refine Rn.vi (pc' := 13) rfl (by decide) (by omega) rfl rfl rfl (show Cl (d - 1) j_Tape_runEnd [.ref 1, .int (nI q), .int 32, .int 32] (CC m0 F I L R H) (Pi (nI p) (CC m0 F I L R H)) from by rw [ep]; exact c_T_run hn h4 q hq4) ?_
  refine Rn.cput (pc' := 16) rfl rfl rfl rfl rfl (by decide) rfl ?_
  refine Rn.step (pc' := 17) rfl rfl ?_
  refine Rn.step (pc' := 18) rfl rfl ?_
  refine Rn.getf (pc' := 21) rfl rfl rfl rfl rfl ?_
  refine Rn.cput (pc' := 24) rfl rfl rfl rfl rfl (by decide) rfl ?_
  rw [va_up_self, up_up]
  refine Rn.step (pc' := 25) rfl rfl ?_
  refine Rn.iconst (v := 0) (pc' := 26) rfl (by decide) rfl ?_
  refine Rn.cput (pc' := 29) rfl rfl rfl rfl rfl (by decide) rfl ?_
  rw [va_up_self, up_up]
  refine Rn.step (pc' := 30) rfl rfl ?_
  refine Rn.getf (pc' := 33) rfl rfl rfl rfl rfl ?_
  refine Rn.step (pc' := 34) rfl rfl ?_
  refine Rn.getf (pc' := 37) rfl rfl rfl rfl rfl ?_
  refine Rn.icmp_lt (pc1 := 46) (pc2 := 40) rfl rfl rfl (fun h37 => ?_) (fun h37 => ?_)
  · have hlt : p < n := (nI_ltI (by omega) (by omega)).mp (hn ▸ (show nI p < F 1 1 from h37))
    have hnp : ¬ n ≤ p := by omega
    refine Rn.step (pc' := 47) rfl rfl ?_
    refine Rn.getf (pc' := 50) rfl rfl rfl rfl rfl ?_
    refine Rn.step (pc' := 51) rfl rfl ?_
    refine Rn.getf (pc' := 54) rfl rfl rfl rfl rfl ?_
    refine Rn.cbald (k := p) (pc' := 55) rfl rfl (rfl) (by omega) (rfl) (by decide) rfl ?_
    refine Rn.iconst (v := 255) (pc' := 58) rfl (by decide) rfl ?_
    refine Rn.iand (pc' := 59) rfl rfl ?_
    refine Rn.step (pc' := 60) rfl rfl ?_
    refine Rn.step (pc' := 61) rfl rfl ?_
    refine Rn.iconst (v := 97) (pc' := 63) rfl (by decide) rfl ?_
    refine Rn.icmp_lt (pc1 := 96) (pc2 := 66) rfl rfl rfl (fun h63 => ?_) (fun h63 => ?_)
    · refine Rn.step (pc' := 97) rfl rfl ?_
      refine Rn.iconst (v := 48) (pc' := 99) rfl (by decide) rfl ?_
      refine Rn.icmp_lt (pc1 := 182) (pc2 := 102) rfl rfl rfl (fun h99 => ?_) (fun h99 => ?_)
      · refine Rn.step (pc' := 183) rfl rfl ?_
        refine Rn.iconst (v := 3) (pc' := 184) rfl (by decide) rfl ?_
        refine Rn.cput (pc' := 187) rfl rfl rfl rfl rfl (by decide) rfl ?_
        rw [va_up_self, up_up]
        refine Rn.step (pc' := 188) rfl rfl ?_
        refine Rn.step (pc' := 189) rfl rfl ?_
        refine Rn.getf (pc' := 192) rfl rfl rfl rfl rfl ?_
        refine Rn.iconst (v := 1) (pc' := 193) rfl (by decide) rfl ?_
        refine Rn.iadd (pc' := 194) rfl rfl ?_
        refine Rn.cput (pc' := 197) rfl rfl rfl rfl rfl (by decide) rfl ?_
        rw [va_up_self, up_up]
        refine Rn.step (pc' := 198) rfl rfl ?_
        refine Rn.step (pc' := 199) rfl rfl ?_
        refine Rn.cput (pc' := 202) rfl rfl rfl rfl rfl (by decide) rfl ?_
        rw [va_up_self, up_up]
        refine Rn.step (pc' := 203) rfl rfl ?_
        refine Rn.iconst (v := 60) (pc' := 205) rfl (by decide) rfl ?_
        refine Rn.icmp_eq (pc1 := 214) (pc2 := 208) rfl rfl rfl (fun h205 => ?_) (fun h205 => ?_)
        · refine Rn.step (pc' := 215) rfl rfl ?_
          refine Rn.getf (pc' := 218) rfl rfl rfl rfl rfl ?_
          refine Rn.step (pc' := 219) rfl rfl ?_
          refine Rn.getf (pc' := 222) rfl rfl rfl rfl rfl ?_
          refine Rn.icmp_ge (pc1 := 261) (pc2 := 225) rfl rfl rfl (fun h222 => ?_) (fun h222 => ?_)
          · exact Rn.vret rfl (⟨rfl, _, rfl, ⟨hn, by rw [kd3 hnp (fun z => absurd h63 (Int32.not_lt.mpr z.1)) (fun z => absurd h99 (Int32.not_lt.mpr z.1))]; rfl, rfl, by rw [(tz4 (kd3 hnp (fun z => absurd h63 (Int32.not_lt.mpr z.1)) (fun z => absurd h99 (Int32.not_lt.mpr z.1))) (fun z => absurd ((nI_ltI (a := p + 1) (b := n) (by omega) (by omega)).mpr z.2.1) (Int32.not_lt.mpr (by rw [← hn, ← nI_add]; exact h222)))).1, ← nI_add]; rfl, by rw [(tz4 (kd3 hnp (fun z => absurd h63 (Int32.not_lt.mpr z.1)) (fun z => absurd h99 (Int32.not_lt.mpr z.1))) (fun z => absurd ((nI_ltI (a := p + 1) (b := n) (by omega) (by omega)).mpr z.2.1) (Int32.not_lt.mpr (by rw [← hn, ← nI_add]; exact h222)))).2]; rfl⟩, rfl⟩)
          · refine Rn.step (pc' := 226) rfl rfl ?_
            refine Rn.getf (pc' := 229) rfl rfl rfl rfl rfl ?_
            refine Rn.step (pc' := 230) rfl rfl ?_
            refine Rn.getf (pc' := 233) rfl rfl rfl rfl rfl ?_
            refine Rn.cbald (k := p + 1) (pc' := 234) rfl rfl (by rw [← nI_add]; rfl) ((nI_ltI (a := p + 1) (b := 400) (by omega) (by omega)).mp (by have := Int32.not_le.mp h222; exact Int32.lt_of_lt_of_le (by rw [← nI_add]; exact this) (by show F 1 1 ≤ _; rw [hn]; exact (nI_leI (by omega) (by omega)).mpr h4))) (rfl) (by decide) rfl ?_
            refine Rn.iconst (v := 61) (pc' := 236) rfl (by decide) rfl ?_
            refine Rn.icmp_ne (pc1 := 261) (pc2 := 239) rfl rfl rfl (fun h236 => ?_) (fun h236 => ?_)
            · exact Rn.vret rfl (⟨rfl, _, rfl, ⟨hn, by rw [kd3 hnp (fun z => absurd h63 (Int32.not_lt.mpr z.1)) (fun z => absurd h99 (Int32.not_lt.mpr z.1))]; rfl, rfl, by rw [(tz4 (kd3 hnp (fun z => absurd h63 (Int32.not_lt.mpr z.1)) (fun z => absurd h99 (Int32.not_lt.mpr z.1))) (fun z => h236 z.2.2)).1, ← nI_add]; rfl, by rw [(tz4 (kd3 hnp (fun z => absurd h63 (Int32.not_lt.mpr z.1)) (fun z => absurd h99 (Int32.not_lt.mpr z.1))) (fun z => h236 z.2.2)).2]; rfl⟩, rfl⟩)
            · refine Rn.step (pc' := 240) rfl rfl ?_
              refine Rn.step (pc' := 241) rfl rfl ?_
              refine Rn.getf (pc' := 244) rfl rfl rfl rfl rfl ?_
              refine Rn.iconst (v := 1) (pc' := 245) rfl (by decide) rfl ?_
              refine Rn.iadd (pc' := 246) rfl rfl ?_
              refine Rn.cput (pc' := 249) rfl rfl rfl rfl rfl (by decide) rfl ?_
              rw [va_up_self, up_up]
              refine Rn.step (pc' := 250) rfl rfl ?_
              refine Rn.step (pc' := 251) rfl rfl ?_
              refine Rn.getf (pc' := 254) rfl rfl rfl rfl rfl ?_
              refine Rn.iconst (v := 256) (pc' := 257) rfl (by decide) rfl ?_
              refine Rn.iadd (pc' := 258) rfl rfl ?_
              refine Rn.cput (pc' := 261) rfl rfl rfl rfl rfl (by decide) rfl ?_
              rw [va_up_self, up_up]
              exact Rn.vret rfl (⟨rfl, _, rfl, ⟨hn, by rw [kd3 hnp (fun z => absurd h63 (Int32.not_lt.mpr z.1)) (fun z => absurd h99 (Int32.not_lt.mpr z.1))]; rfl, rfl, by rw [(tz3 (kd3 hnp (fun z => absurd h63 (Int32.not_lt.mpr z.1)) (fun z => absurd h99 (Int32.not_lt.mpr z.1))) ⟨Or.inl h205, (nI_ltI (a := p + 1) (b := n) (by omega) (by omega)).mp (by rw [← hn, ← nI_add]; exact Int32.not_le.mp h222), h236⟩).1, show p + 2 = p + 1 + 1 from rfl, ← nI_add, ← nI_add]; rfl, by rw [(tz3 (kd3 hnp (fun z => absurd h63 (Int32.not_lt.mpr z.1)) (fun z => absurd h99 (Int32.not_lt.mpr z.1))) ⟨Or.inl h205, (nI_ltI (a := p + 1) (b := n) (by omega) (by omega)).mp (by rw [← hn, ← nI_add]; exact Int32.not_le.mp h222), h236⟩).2]; rfl⟩, rfl⟩)
        · refine Rn.step (pc' := 209) rfl rfl ?_
          refine Rn.iconst (v := 62) (pc' := 211) rfl (by decide) rfl ?_
          refine Rn.icmp_ne (pc1 := 261) (pc2 := 214) rfl rfl rfl (fun h211 => ?_) (fun h211 => ?_)
          · exact Rn.vret rfl (⟨rfl, _, rfl, ⟨hn, by rw [kd3 hnp (fun z => absurd h63 (Int32.not_lt.mpr z.1)) (fun z => absurd h99 (Int32.not_lt.mpr z.1))]; rfl, rfl, by rw [(tz4 (kd3 hnp (fun z => absurd h63 (Int32.not_lt.mpr z.1)) (fun z => absurd h99 (Int32.not_lt.mpr z.1))) (fun z => z.1.elim h205 h211)).1, ← nI_add]; rfl, by rw [(tz4 (kd3 hnp (fun z => absurd h63 (Int32.not_lt.mpr z.1)) (fun z => absurd h99 (Int32.not_lt.mpr z.1))) (fun z => z.1.elim h205 h211)).2]; rfl⟩, rfl⟩)
          · refine Rn.step (pc' := 215) rfl rfl ?_
            refine Rn.getf (pc' := 218) rfl rfl rfl rfl rfl ?_
            refine Rn.step (pc' := 219) rfl rfl ?_
            refine Rn.getf (pc' := 222) rfl rfl rfl rfl rfl ?_
            refine Rn.icmp_ge (pc1 := 261) (pc2 := 225) rfl rfl rfl (fun h222 => ?_) (fun h222 => ?_)
            · exact Rn.vret rfl (⟨rfl, _, rfl, ⟨hn, by rw [kd3 hnp (fun z => absurd h63 (Int32.not_lt.mpr z.1)) (fun z => absurd h99 (Int32.not_lt.mpr z.1))]; rfl, rfl, by rw [(tz4 (kd3 hnp (fun z => absurd h63 (Int32.not_lt.mpr z.1)) (fun z => absurd h99 (Int32.not_lt.mpr z.1))) (fun z => absurd ((nI_ltI (a := p + 1) (b := n) (by omega) (by omega)).mpr z.2.1) (Int32.not_lt.mpr (by rw [← hn, ← nI_add]; exact h222)))).1, ← nI_add]; rfl, by rw [(tz4 (kd3 hnp (fun z => absurd h63 (Int32.not_lt.mpr z.1)) (fun z => absurd h99 (Int32.not_lt.mpr z.1))) (fun z => absurd ((nI_ltI (a := p + 1) (b := n) (by omega) (by omega)).mpr z.2.1) (Int32.not_lt.mpr (by rw [← hn, ← nI_add]; exact h222)))).2]; rfl⟩, rfl⟩)
            · refine Rn.step (pc' := 226) rfl rfl ?_
              refine Rn.getf (pc' := 229) rfl rfl rfl rfl rfl ?_
              refine Rn.step (pc' := 230) rfl rfl ?_
              refine Rn.getf (pc' := 233) rfl rfl rfl rfl rfl ?_
              refine Rn.cbald (k := p + 1) (pc' := 234) rfl rfl (by rw [← nI_add]; rfl) ((nI_ltI (a := p + 1) (b := 400) (by omega) (by omega)).mp (by have := Int32.not_le.mp h222; exact Int32.lt_of_lt_of_le (by rw [← nI_add]; exact this) (by show F 1 1 ≤ _; rw [hn]; exact (nI_leI (by omega) (by omega)).mpr h4))) (rfl) (by decide) rfl ?_
              refine Rn.iconst (v := 61) (pc' := 236) rfl (by decide) rfl ?_
              refine Rn.icmp_ne (pc1 := 261) (pc2 := 239) rfl rfl rfl (fun h236 => ?_) (fun h236 => ?_)
              · exact Rn.vret rfl (⟨rfl, _, rfl, ⟨hn, by rw [kd3 hnp (fun z => absurd h63 (Int32.not_lt.mpr z.1)) (fun z => absurd h99 (Int32.not_lt.mpr z.1))]; rfl, rfl, by rw [(tz4 (kd3 hnp (fun z => absurd h63 (Int32.not_lt.mpr z.1)) (fun z => absurd h99 (Int32.not_lt.mpr z.1))) (fun z => h236 z.2.2)).1, ← nI_add]; rfl, by rw [(tz4 (kd3 hnp (fun z => absurd h63 (Int32.not_lt.mpr z.1)) (fun z => absurd h99 (Int32.not_lt.mpr z.1))) (fun z => h236 z.2.2)).2]; rfl⟩, rfl⟩)
              · refine Rn.step (pc' := 240) rfl rfl ?_
                refine Rn.step (pc' := 241) rfl rfl ?_
                refine Rn.getf (pc' := 244) rfl rfl rfl rfl rfl ?_
                refine Rn.iconst (v := 1) (pc' := 245) rfl (by decide) rfl ?_
                refine Rn.iadd (pc' := 246) rfl rfl ?_
                refine Rn.cput (pc' := 249) rfl rfl rfl rfl rfl (by decide) rfl ?_
                rw [va_up_self, up_up]
                refine Rn.step (pc' := 250) rfl rfl ?_
                refine Rn.step (pc' := 251) rfl rfl ?_
                refine Rn.getf (pc' := 254) rfl rfl rfl rfl rfl ?_
                refine Rn.iconst (v := 256) (pc' := 257) rfl (by decide) rfl ?_
                refine Rn.iadd (pc' := 258) rfl rfl ?_
                refine Rn.cput (pc' := 261) rfl rfl rfl rfl rfl (by decide) rfl ?_
                rw [va_up_self, up_up]
                exact Rn.vret rfl (⟨rfl, _, rfl, ⟨hn, by rw [kd3 hnp (fun z => absurd h63 (Int32.not_lt.mpr z.1)) (fun z => absurd h99 (Int32.not_lt.mpr z.1))]; rfl, rfl, by rw [(tz3 (kd3 hnp (fun z => absurd h63 (Int32.not_lt.mpr z.1)) (fun z => absurd h99 (Int32.not_lt.mpr z.1))) ⟨Or.inr h211, (nI_ltI (a := p + 1) (b := n) (by omega) (by omega)).mp (by rw [← hn, ← nI_add]; exact Int32.not_le.mp h222), h236⟩).1, show p + 2 = p + 1 + 1 from rfl, ← nI_add, ← nI_add]; rfl, by rw [(tz3 (kd3 hnp (fun z => absurd h63 (Int32.not_lt.mpr z.1)) (fun z => absurd h99 (Int32.not_lt.mpr z.1))) ⟨Or.inr h211, (nI_ltI (a := p + 1) (b := n) (by omega) (by omega)).mp (by rw [← hn, ← nI_add]; exact Int32.not_le.mp h222), h236⟩).2]; rfl⟩, rfl⟩)
      · refine Rn.step (pc' := 103) rfl rfl ?_
        refine Rn.iconst (v := 57) (pc' := 105) rfl (by decide) rfl ?_
        refine Rn.icmp_gt (pc1 := 182) (pc2 := 108) rfl rfl rfl (fun h105 => ?_) (fun h105 => ?_)
        · refine Rn.step (pc' := 183) rfl rfl ?_
          refine Rn.iconst (v := 3) (pc' := 184) rfl (by decide) rfl ?_
          refine Rn.cput (pc' := 187) rfl rfl rfl rfl rfl (by decide) rfl ?_
          rw [va_up_self, up_up]
          refine Rn.step (pc' := 188) rfl rfl ?_
          refine Rn.step (pc' := 189) rfl rfl ?_
          refine Rn.getf (pc' := 192) rfl rfl rfl rfl rfl ?_
          refine Rn.iconst (v := 1) (pc' := 193) rfl (by decide) rfl ?_
          refine Rn.iadd (pc' := 194) rfl rfl ?_
          refine Rn.cput (pc' := 197) rfl rfl rfl rfl rfl (by decide) rfl ?_
          rw [va_up_self, up_up]
          refine Rn.step (pc' := 198) rfl rfl ?_
          refine Rn.step (pc' := 199) rfl rfl ?_
          refine Rn.cput (pc' := 202) rfl rfl rfl rfl rfl (by decide) rfl ?_
          rw [va_up_self, up_up]
          refine Rn.step (pc' := 203) rfl rfl ?_
          refine Rn.iconst (v := 60) (pc' := 205) rfl (by decide) rfl ?_
          refine Rn.icmp_eq (pc1 := 214) (pc2 := 208) rfl rfl rfl (fun h205 => ?_) (fun h205 => ?_)
          · refine Rn.step (pc' := 215) rfl rfl ?_
            refine Rn.getf (pc' := 218) rfl rfl rfl rfl rfl ?_
            refine Rn.step (pc' := 219) rfl rfl ?_
            refine Rn.getf (pc' := 222) rfl rfl rfl rfl rfl ?_
            refine Rn.icmp_ge (pc1 := 261) (pc2 := 225) rfl rfl rfl (fun h222 => ?_) (fun h222 => ?_)
            · exact Rn.vret rfl (⟨rfl, _, rfl, ⟨hn, by rw [kd3 hnp (fun z => absurd h63 (Int32.not_lt.mpr z.1)) (fun z => absurd h105 (Int32.not_lt.mpr z.2))]; rfl, rfl, by rw [(tz4 (kd3 hnp (fun z => absurd h63 (Int32.not_lt.mpr z.1)) (fun z => absurd h105 (Int32.not_lt.mpr z.2))) (fun z => absurd ((nI_ltI (a := p + 1) (b := n) (by omega) (by omega)).mpr z.2.1) (Int32.not_lt.mpr (by rw [← hn, ← nI_add]; exact h222)))).1, ← nI_add]; rfl, by rw [(tz4 (kd3 hnp (fun z => absurd h63 (Int32.not_lt.mpr z.1)) (fun z => absurd h105 (Int32.not_lt.mpr z.2))) (fun z => absurd ((nI_ltI (a := p + 1) (b := n) (by omega) (by omega)).mpr z.2.1) (Int32.not_lt.mpr (by rw [← hn, ← nI_add]; exact h222)))).2]; rfl⟩, rfl⟩)
            · refine Rn.step (pc' := 226) rfl rfl ?_
              refine Rn.getf (pc' := 229) rfl rfl rfl rfl rfl ?_
              refine Rn.step (pc' := 230) rfl rfl ?_
              refine Rn.getf (pc' := 233) rfl rfl rfl rfl rfl ?_
              refine Rn.cbald (k := p + 1) (pc' := 234) rfl rfl (by rw [← nI_add]; rfl) ((nI_ltI (a := p + 1) (b := 400) (by omega) (by omega)).mp (by have := Int32.not_le.mp h222; exact Int32.lt_of_lt_of_le (by rw [← nI_add]; exact this) (by show F 1 1 ≤ _; rw [hn]; exact (nI_leI (by omega) (by omega)).mpr h4))) (rfl) (by decide) rfl ?_
              refine Rn.iconst (v := 61) (pc' := 236) rfl (by decide) rfl ?_
              refine Rn.icmp_ne (pc1 := 261) (pc2 := 239) rfl rfl rfl (fun h236 => ?_) (fun h236 => ?_)
              · exact Rn.vret rfl (⟨rfl, _, rfl, ⟨hn, by rw [kd3 hnp (fun z => absurd h63 (Int32.not_lt.mpr z.1)) (fun z => absurd h105 (Int32.not_lt.mpr z.2))]; rfl, rfl, by rw [(tz4 (kd3 hnp (fun z => absurd h63 (Int32.not_lt.mpr z.1)) (fun z => absurd h105 (Int32.not_lt.mpr z.2))) (fun z => h236 z.2.2)).1, ← nI_add]; rfl, by rw [(tz4 (kd3 hnp (fun z => absurd h63 (Int32.not_lt.mpr z.1)) (fun z => absurd h105 (Int32.not_lt.mpr z.2))) (fun z => h236 z.2.2)).2]; rfl⟩, rfl⟩)
              · refine Rn.step (pc' := 240) rfl rfl ?_
                refine Rn.step (pc' := 241) rfl rfl ?_
                refine Rn.getf (pc' := 244) rfl rfl rfl rfl rfl ?_
                refine Rn.iconst (v := 1) (pc' := 245) rfl (by decide) rfl ?_
                refine Rn.iadd (pc' := 246) rfl rfl ?_
                refine Rn.cput (pc' := 249) rfl rfl rfl rfl rfl (by decide) rfl ?_
                rw [va_up_self, up_up]
                refine Rn.step (pc' := 250) rfl rfl ?_
                refine Rn.step (pc' := 251) rfl rfl ?_
                refine Rn.getf (pc' := 254) rfl rfl rfl rfl rfl ?_
                refine Rn.iconst (v := 256) (pc' := 257) rfl (by decide) rfl ?_
                refine Rn.iadd (pc' := 258) rfl rfl ?_
                refine Rn.cput (pc' := 261) rfl rfl rfl rfl rfl (by decide) rfl ?_
                rw [va_up_self, up_up]
                exact Rn.vret rfl (⟨rfl, _, rfl, ⟨hn, by rw [kd3 hnp (fun z => absurd h63 (Int32.not_lt.mpr z.1)) (fun z => absurd h105 (Int32.not_lt.mpr z.2))]; rfl, rfl, by rw [(tz3 (kd3 hnp (fun z => absurd h63 (Int32.not_lt.mpr z.1)) (fun z => absurd h105 (Int32.not_lt.mpr z.2))) ⟨Or.inl h205, (nI_ltI (a := p + 1) (b := n) (by omega) (by omega)).mp (by rw [← hn, ← nI_add]; exact Int32.not_le.mp h222), h236⟩).1, show p + 2 = p + 1 + 1 from rfl, ← nI_add, ← nI_add]; rfl, by rw [(tz3 (kd3 hnp (fun z => absurd h63 (Int32.not_lt.mpr z.1)) (fun z => absurd h105 (Int32.not_lt.mpr z.2))) ⟨Or.inl h205, (nI_ltI (a := p + 1) (b := n) (by omega) (by omega)).mp (by rw [← hn, ← nI_add]; exact Int32.not_le.mp h222), h236⟩).2]; rfl⟩, rfl⟩)
          · refine Rn.step (pc' := 209) rfl rfl ?_
            refine Rn.iconst (v := 62) (pc' := 211) rfl (by decide) rfl ?_
            refine Rn.icmp_ne (pc1 := 261) (pc2 := 214) rfl rfl rfl (fun h211 => ?_) (fun h211 => ?_)
            · exact Rn.vret rfl (⟨rfl, _, rfl, ⟨hn, by rw [kd3 hnp (fun z => absurd h63 (Int32.not_lt.mpr z.1)) (fun z => absurd h105 (Int32.not_lt.mpr z.2))]; rfl, rfl, by rw [(tz4 (kd3 hnp (fun z => absurd h63 (Int32.not_lt.mpr z.1)) (fun z => absurd h105 (Int32.not_lt.mpr z.2))) (fun z => z.1.elim h205 h211)).1, ← nI_add]; rfl, by rw [(tz4 (kd3 hnp (fun z => absurd h63 (Int32.not_lt.mpr z.1)) (fun z => absurd h105 (Int32.not_lt.mpr z.2))) (fun z => z.1.elim h205 h211)).2]; rfl⟩, rfl⟩)
            · refine Rn.step (pc' := 215) rfl rfl ?_
              refine Rn.getf (pc' := 218) rfl rfl rfl rfl rfl ?_
              refine Rn.step (pc' := 219) rfl rfl ?_
              refine Rn.getf (pc' := 222) rfl rfl rfl rfl rfl ?_
              refine Rn.icmp_ge (pc1 := 261) (pc2 := 225) rfl rfl rfl (fun h222 => ?_) (fun h222 => ?_)
              · exact Rn.vret rfl (⟨rfl, _, rfl, ⟨hn, by rw [kd3 hnp (fun z => absurd h63 (Int32.not_lt.mpr z.1)) (fun z => absurd h105 (Int32.not_lt.mpr z.2))]; rfl, rfl, by rw [(tz4 (kd3 hnp (fun z => absurd h63 (Int32.not_lt.mpr z.1)) (fun z => absurd h105 (Int32.not_lt.mpr z.2))) (fun z => absurd ((nI_ltI (a := p + 1) (b := n) (by omega) (by omega)).mpr z.2.1) (Int32.not_lt.mpr (by rw [← hn, ← nI_add]; exact h222)))).1, ← nI_add]; rfl, by rw [(tz4 (kd3 hnp (fun z => absurd h63 (Int32.not_lt.mpr z.1)) (fun z => absurd h105 (Int32.not_lt.mpr z.2))) (fun z => absurd ((nI_ltI (a := p + 1) (b := n) (by omega) (by omega)).mpr z.2.1) (Int32.not_lt.mpr (by rw [← hn, ← nI_add]; exact h222)))).2]; rfl⟩, rfl⟩)
              · refine Rn.step (pc' := 226) rfl rfl ?_
                refine Rn.getf (pc' := 229) rfl rfl rfl rfl rfl ?_
                refine Rn.step (pc' := 230) rfl rfl ?_
                refine Rn.getf (pc' := 233) rfl rfl rfl rfl rfl ?_
                refine Rn.cbald (k := p + 1) (pc' := 234) rfl rfl (by rw [← nI_add]; rfl) ((nI_ltI (a := p + 1) (b := 400) (by omega) (by omega)).mp (by have := Int32.not_le.mp h222; exact Int32.lt_of_lt_of_le (by rw [← nI_add]; exact this) (by show F 1 1 ≤ _; rw [hn]; exact (nI_leI (by omega) (by omega)).mpr h4))) (rfl) (by decide) rfl ?_
                refine Rn.iconst (v := 61) (pc' := 236) rfl (by decide) rfl ?_
                refine Rn.icmp_ne (pc1 := 261) (pc2 := 239) rfl rfl rfl (fun h236 => ?_) (fun h236 => ?_)
                · exact Rn.vret rfl (⟨rfl, _, rfl, ⟨hn, by rw [kd3 hnp (fun z => absurd h63 (Int32.not_lt.mpr z.1)) (fun z => absurd h105 (Int32.not_lt.mpr z.2))]; rfl, rfl, by rw [(tz4 (kd3 hnp (fun z => absurd h63 (Int32.not_lt.mpr z.1)) (fun z => absurd h105 (Int32.not_lt.mpr z.2))) (fun z => h236 z.2.2)).1, ← nI_add]; rfl, by rw [(tz4 (kd3 hnp (fun z => absurd h63 (Int32.not_lt.mpr z.1)) (fun z => absurd h105 (Int32.not_lt.mpr z.2))) (fun z => h236 z.2.2)).2]; rfl⟩, rfl⟩)
                · refine Rn.step (pc' := 240) rfl rfl ?_
                  refine Rn.step (pc' := 241) rfl rfl ?_
                  refine Rn.getf (pc' := 244) rfl rfl rfl rfl rfl ?_
                  refine Rn.iconst (v := 1) (pc' := 245) rfl (by decide) rfl ?_
                  refine Rn.iadd (pc' := 246) rfl rfl ?_
                  refine Rn.cput (pc' := 249) rfl rfl rfl rfl rfl (by decide) rfl ?_
                  rw [va_up_self, up_up]
                  refine Rn.step (pc' := 250) rfl rfl ?_
                  refine Rn.step (pc' := 251) rfl rfl ?_
                  refine Rn.getf (pc' := 254) rfl rfl rfl rfl rfl ?_
                  refine Rn.iconst (v := 256) (pc' := 257) rfl (by decide) rfl ?_
                  refine Rn.iadd (pc' := 258) rfl rfl ?_
                  refine Rn.cput (pc' := 261) rfl rfl rfl rfl rfl (by decide) rfl ?_
                  rw [va_up_self, up_up]
                  exact Rn.vret rfl (⟨rfl, _, rfl, ⟨hn, by rw [kd3 hnp (fun z => absurd h63 (Int32.not_lt.mpr z.1)) (fun z => absurd h105 (Int32.not_lt.mpr z.2))]; rfl, rfl, by rw [(tz3 (kd3 hnp (fun z => absurd h63 (Int32.not_lt.mpr z.1)) (fun z => absurd h105 (Int32.not_lt.mpr z.2))) ⟨Or.inr h211, (nI_ltI (a := p + 1) (b := n) (by omega) (by omega)).mp (by rw [← hn, ← nI_add]; exact Int32.not_le.mp h222), h236⟩).1, show p + 2 = p + 1 + 1 from rfl, ← nI_add, ← nI_add]; rfl, by rw [(tz3 (kd3 hnp (fun z => absurd h63 (Int32.not_lt.mpr z.1)) (fun z => absurd h105 (Int32.not_lt.mpr z.2))) ⟨Or.inr h211, (nI_ltI (a := p + 1) (b := n) (by omega) (by omega)).mp (by rw [← hn, ← nI_add]; exact Int32.not_le.mp h222), h236⟩).2]; rfl⟩, rfl⟩)
        · refine Rn.step (pc' := 109) rfl rfl ?_
          refine Rn.iconst (v := 2) (pc' := 110) rfl (by decide) rfl ?_
          refine Rn.cput (pc' := 113) rfl rfl rfl rfl rfl (by decide) rfl ?_
          rw [va_up_self, up_up]
          refine Rn.step (pc' := 114) rfl rfl ?_
          refine Rn.step (pc' := 115) rfl rfl ?_
          refine Rn.step (pc' := 116) rfl rfl ?_
          refine Rn.getf (pc' := 119) rfl rfl rfl rfl rfl ?_
          refine Rn.iconst (v := 48) (pc' := 121) rfl (by decide) rfl ?_
          refine Rn.iconst (v := 57) (pc' := 123) rfl (by decide) rfl ?_
          refine Rn.vi (pc' := 126) rfl (by decide) (by omega) rfl rfl rfl (c_T_run (n := n) (by exact hn) h4 p (by omega)) ?_
          refine Rn.cput (pc' := 129) rfl rfl rfl rfl rfl (by decide) rfl ?_
          rw [va_up_self, up_up]
          refine Rn.step (pc' := 130) rfl rfl ?_
          refine Rn.getf (pc' := 133) rfl rfl rfl rfl rfl ?_
          refine Rn.step (pc' := 134) rfl rfl ?_
          refine Rn.conseq (l_T_dig (m0 := m0) (F := F) (I := I) (L := L) (R := R) (H := H) (p := p) (q := rnE 48 57 (I 2) n p) ⟨rnE_ge, Nat.le_trans (rnE_le (by omega)) h4⟩ _ rfl rfl p ⟨Nat.le_refl _, rnE_ge, by omega⟩) ?_
          rintro r m2 ⟨rfl, f1, rfl, e1, e2⟩
          refine ⟨rfl, f1, rfl, ⟨(e1 1 (by decide)).trans hn, (e1 3 (by decide)).trans (by rw [kd2 hnp (fun z => absurd h63 (Int32.not_lt.mpr z.1)) ⟨Int32.not_lt.mp h99, Int32.not_lt.mp h105⟩]; rfl), (e1 4 (by decide)).trans rfl, (e1 5 (by decide)).trans (by rw [(tz2 (kd2 hnp (fun z => absurd h63 (Int32.not_lt.mpr z.1)) ⟨Int32.not_lt.mp h99, Int32.not_lt.mp h105⟩)).1]; rfl), e2.trans (by rw [(tz2 (kd2 hnp (fun z => absurd h63 (Int32.not_lt.mpr z.1)) ⟨Int32.not_lt.mp h99, Int32.not_lt.mp h105⟩)).2, Nat.sub_self]; rfl)⟩, (e1 2 (by decide)).trans rfl⟩
    · refine Rn.step (pc' := 67) rfl rfl ?_
      refine Rn.iconst (v := 122) (pc' := 69) rfl (by decide) rfl ?_
      refine Rn.icmp_gt (pc1 := 96) (pc2 := 72) rfl rfl rfl (fun h69 => ?_) (fun h69 => ?_)
      · refine Rn.step (pc' := 97) rfl rfl ?_
        refine Rn.iconst (v := 48) (pc' := 99) rfl (by decide) rfl ?_
        refine Rn.icmp_lt (pc1 := 182) (pc2 := 102) rfl rfl rfl (fun h99 => ?_) (fun h99 => ?_)
        · refine Rn.step (pc' := 183) rfl rfl ?_
          refine Rn.iconst (v := 3) (pc' := 184) rfl (by decide) rfl ?_
          refine Rn.cput (pc' := 187) rfl rfl rfl rfl rfl (by decide) rfl ?_
          rw [va_up_self, up_up]
          refine Rn.step (pc' := 188) rfl rfl ?_
          refine Rn.step (pc' := 189) rfl rfl ?_
          refine Rn.getf (pc' := 192) rfl rfl rfl rfl rfl ?_
          refine Rn.iconst (v := 1) (pc' := 193) rfl (by decide) rfl ?_
          refine Rn.iadd (pc' := 194) rfl rfl ?_
          refine Rn.cput (pc' := 197) rfl rfl rfl rfl rfl (by decide) rfl ?_
          rw [va_up_self, up_up]
          refine Rn.step (pc' := 198) rfl rfl ?_
          refine Rn.step (pc' := 199) rfl rfl ?_
          refine Rn.cput (pc' := 202) rfl rfl rfl rfl rfl (by decide) rfl ?_
          rw [va_up_self, up_up]
          refine Rn.step (pc' := 203) rfl rfl ?_
          refine Rn.iconst (v := 60) (pc' := 205) rfl (by decide) rfl ?_
          refine Rn.icmp_eq (pc1 := 214) (pc2 := 208) rfl rfl rfl (fun h205 => ?_) (fun h205 => ?_)
          · refine Rn.step (pc' := 215) rfl rfl ?_
            refine Rn.getf (pc' := 218) rfl rfl rfl rfl rfl ?_
            refine Rn.step (pc' := 219) rfl rfl ?_
            refine Rn.getf (pc' := 222) rfl rfl rfl rfl rfl ?_
            refine Rn.icmp_ge (pc1 := 261) (pc2 := 225) rfl rfl rfl (fun h222 => ?_) (fun h222 => ?_)
            · exact Rn.vret rfl (⟨rfl, _, rfl, ⟨hn, by rw [kd3 hnp (fun z => absurd h69 (Int32.not_lt.mpr z.2)) (fun z => absurd h99 (Int32.not_lt.mpr z.1))]; rfl, rfl, by rw [(tz4 (kd3 hnp (fun z => absurd h69 (Int32.not_lt.mpr z.2)) (fun z => absurd h99 (Int32.not_lt.mpr z.1))) (fun z => absurd ((nI_ltI (a := p + 1) (b := n) (by omega) (by omega)).mpr z.2.1) (Int32.not_lt.mpr (by rw [← hn, ← nI_add]; exact h222)))).1, ← nI_add]; rfl, by rw [(tz4 (kd3 hnp (fun z => absurd h69 (Int32.not_lt.mpr z.2)) (fun z => absurd h99 (Int32.not_lt.mpr z.1))) (fun z => absurd ((nI_ltI (a := p + 1) (b := n) (by omega) (by omega)).mpr z.2.1) (Int32.not_lt.mpr (by rw [← hn, ← nI_add]; exact h222)))).2]; rfl⟩, rfl⟩)
            · refine Rn.step (pc' := 226) rfl rfl ?_
              refine Rn.getf (pc' := 229) rfl rfl rfl rfl rfl ?_
              refine Rn.step (pc' := 230) rfl rfl ?_
              refine Rn.getf (pc' := 233) rfl rfl rfl rfl rfl ?_
              refine Rn.cbald (k := p + 1) (pc' := 234) rfl rfl (by rw [← nI_add]; rfl) ((nI_ltI (a := p + 1) (b := 400) (by omega) (by omega)).mp (by have := Int32.not_le.mp h222; exact Int32.lt_of_lt_of_le (by rw [← nI_add]; exact this) (by show F 1 1 ≤ _; rw [hn]; exact (nI_leI (by omega) (by omega)).mpr h4))) (rfl) (by decide) rfl ?_
              refine Rn.iconst (v := 61) (pc' := 236) rfl (by decide) rfl ?_
              refine Rn.icmp_ne (pc1 := 261) (pc2 := 239) rfl rfl rfl (fun h236 => ?_) (fun h236 => ?_)
              · exact Rn.vret rfl (⟨rfl, _, rfl, ⟨hn, by rw [kd3 hnp (fun z => absurd h69 (Int32.not_lt.mpr z.2)) (fun z => absurd h99 (Int32.not_lt.mpr z.1))]; rfl, rfl, by rw [(tz4 (kd3 hnp (fun z => absurd h69 (Int32.not_lt.mpr z.2)) (fun z => absurd h99 (Int32.not_lt.mpr z.1))) (fun z => h236 z.2.2)).1, ← nI_add]; rfl, by rw [(tz4 (kd3 hnp (fun z => absurd h69 (Int32.not_lt.mpr z.2)) (fun z => absurd h99 (Int32.not_lt.mpr z.1))) (fun z => h236 z.2.2)).2]; rfl⟩, rfl⟩)
              · refine Rn.step (pc' := 240) rfl rfl ?_
                refine Rn.step (pc' := 241) rfl rfl ?_
                refine Rn.getf (pc' := 244) rfl rfl rfl rfl rfl ?_
                refine Rn.iconst (v := 1) (pc' := 245) rfl (by decide) rfl ?_
                refine Rn.iadd (pc' := 246) rfl rfl ?_
                refine Rn.cput (pc' := 249) rfl rfl rfl rfl rfl (by decide) rfl ?_
                rw [va_up_self, up_up]
                refine Rn.step (pc' := 250) rfl rfl ?_
                refine Rn.step (pc' := 251) rfl rfl ?_
                refine Rn.getf (pc' := 254) rfl rfl rfl rfl rfl ?_
                refine Rn.iconst (v := 256) (pc' := 257) rfl (by decide) rfl ?_
                refine Rn.iadd (pc' := 258) rfl rfl ?_
                refine Rn.cput (pc' := 261) rfl rfl rfl rfl rfl (by decide) rfl ?_
                rw [va_up_self, up_up]
                exact Rn.vret rfl (⟨rfl, _, rfl, ⟨hn, by rw [kd3 hnp (fun z => absurd h69 (Int32.not_lt.mpr z.2)) (fun z => absurd h99 (Int32.not_lt.mpr z.1))]; rfl, rfl, by rw [(tz3 (kd3 hnp (fun z => absurd h69 (Int32.not_lt.mpr z.2)) (fun z => absurd h99 (Int32.not_lt.mpr z.1))) ⟨Or.inl h205, (nI_ltI (a := p + 1) (b := n) (by omega) (by omega)).mp (by rw [← hn, ← nI_add]; exact Int32.not_le.mp h222), h236⟩).1, show p + 2 = p + 1 + 1 from rfl, ← nI_add, ← nI_add]; rfl, by rw [(tz3 (kd3 hnp (fun z => absurd h69 (Int32.not_lt.mpr z.2)) (fun z => absurd h99 (Int32.not_lt.mpr z.1))) ⟨Or.inl h205, (nI_ltI (a := p + 1) (b := n) (by omega) (by omega)).mp (by rw [← hn, ← nI_add]; exact Int32.not_le.mp h222), h236⟩).2]; rfl⟩, rfl⟩)
          · refine Rn.step (pc' := 209) rfl rfl ?_
            refine Rn.iconst (v := 62) (pc' := 211) rfl (by decide) rfl ?_
            refine Rn.icmp_ne (pc1 := 261) (pc2 := 214) rfl rfl rfl (fun h211 => ?_) (fun h211 => ?_)
            · exact Rn.vret rfl (⟨rfl, _, rfl, ⟨hn, by rw [kd3 hnp (fun z => absurd h69 (Int32.not_lt.mpr z.2)) (fun z => absurd h99 (Int32.not_lt.mpr z.1))]; rfl, rfl, by rw [(tz4 (kd3 hnp (fun z => absurd h69 (Int32.not_lt.mpr z.2)) (fun z => absurd h99 (Int32.not_lt.mpr z.1))) (fun z => z.1.elim h205 h211)).1, ← nI_add]; rfl, by rw [(tz4 (kd3 hnp (fun z => absurd h69 (Int32.not_lt.mpr z.2)) (fun z => absurd h99 (Int32.not_lt.mpr z.1))) (fun z => z.1.elim h205 h211)).2]; rfl⟩, rfl⟩)
            · refine Rn.step (pc' := 215) rfl rfl ?_
              refine Rn.getf (pc' := 218) rfl rfl rfl rfl rfl ?_
              refine Rn.step (pc' := 219) rfl rfl ?_
              refine Rn.getf (pc' := 222) rfl rfl rfl rfl rfl ?_
              refine Rn.icmp_ge (pc1 := 261) (pc2 := 225) rfl rfl rfl (fun h222 => ?_) (fun h222 => ?_)
              · exact Rn.vret rfl (⟨rfl, _, rfl, ⟨hn, by rw [kd3 hnp (fun z => absurd h69 (Int32.not_lt.mpr z.2)) (fun z => absurd h99 (Int32.not_lt.mpr z.1))]; rfl, rfl, by rw [(tz4 (kd3 hnp (fun z => absurd h69 (Int32.not_lt.mpr z.2)) (fun z => absurd h99 (Int32.not_lt.mpr z.1))) (fun z => absurd ((nI_ltI (a := p + 1) (b := n) (by omega) (by omega)).mpr z.2.1) (Int32.not_lt.mpr (by rw [← hn, ← nI_add]; exact h222)))).1, ← nI_add]; rfl, by rw [(tz4 (kd3 hnp (fun z => absurd h69 (Int32.not_lt.mpr z.2)) (fun z => absurd h99 (Int32.not_lt.mpr z.1))) (fun z => absurd ((nI_ltI (a := p + 1) (b := n) (by omega) (by omega)).mpr z.2.1) (Int32.not_lt.mpr (by rw [← hn, ← nI_add]; exact h222)))).2]; rfl⟩, rfl⟩)
              · refine Rn.step (pc' := 226) rfl rfl ?_
                refine Rn.getf (pc' := 229) rfl rfl rfl rfl rfl ?_
                refine Rn.step (pc' := 230) rfl rfl ?_
                refine Rn.getf (pc' := 233) rfl rfl rfl rfl rfl ?_
                refine Rn.cbald (k := p + 1) (pc' := 234) rfl rfl (by rw [← nI_add]; rfl) ((nI_ltI (a := p + 1) (b := 400) (by omega) (by omega)).mp (by have := Int32.not_le.mp h222; exact Int32.lt_of_lt_of_le (by rw [← nI_add]; exact this) (by show F 1 1 ≤ _; rw [hn]; exact (nI_leI (by omega) (by omega)).mpr h4))) (rfl) (by decide) rfl ?_
                refine Rn.iconst (v := 61) (pc' := 236) rfl (by decide) rfl ?_
                refine Rn.icmp_ne (pc1 := 261) (pc2 := 239) rfl rfl rfl (fun h236 => ?_) (fun h236 => ?_)
                · exact Rn.vret rfl (⟨rfl, _, rfl, ⟨hn, by rw [kd3 hnp (fun z => absurd h69 (Int32.not_lt.mpr z.2)) (fun z => absurd h99 (Int32.not_lt.mpr z.1))]; rfl, rfl, by rw [(tz4 (kd3 hnp (fun z => absurd h69 (Int32.not_lt.mpr z.2)) (fun z => absurd h99 (Int32.not_lt.mpr z.1))) (fun z => h236 z.2.2)).1, ← nI_add]; rfl, by rw [(tz4 (kd3 hnp (fun z => absurd h69 (Int32.not_lt.mpr z.2)) (fun z => absurd h99 (Int32.not_lt.mpr z.1))) (fun z => h236 z.2.2)).2]; rfl⟩, rfl⟩)
                · refine Rn.step (pc' := 240) rfl rfl ?_
                  refine Rn.step (pc' := 241) rfl rfl ?_
                  refine Rn.getf (pc' := 244) rfl rfl rfl rfl rfl ?_
                  refine Rn.iconst (v := 1) (pc' := 245) rfl (by decide) rfl ?_
                  refine Rn.iadd (pc' := 246) rfl rfl ?_
                  refine Rn.cput (pc' := 249) rfl rfl rfl rfl rfl (by decide) rfl ?_
                  rw [va_up_self, up_up]
                  refine Rn.step (pc' := 250) rfl rfl ?_
                  refine Rn.step (pc' := 251) rfl rfl ?_
                  refine Rn.getf (pc' := 254) rfl rfl rfl rfl rfl ?_
                  refine Rn.iconst (v := 256) (pc' := 257) rfl (by decide) rfl ?_
                  refine Rn.iadd (pc' := 258) rfl rfl ?_
                  refine Rn.cput (pc' := 261) rfl rfl rfl rfl rfl (by decide) rfl ?_
                  rw [va_up_self, up_up]
                  exact Rn.vret rfl (⟨rfl, _, rfl, ⟨hn, by rw [kd3 hnp (fun z => absurd h69 (Int32.not_lt.mpr z.2)) (fun z => absurd h99 (Int32.not_lt.mpr z.1))]; rfl, rfl, by rw [(tz3 (kd3 hnp (fun z => absurd h69 (Int32.not_lt.mpr z.2)) (fun z => absurd h99 (Int32.not_lt.mpr z.1))) ⟨Or.inr h211, (nI_ltI (a := p + 1) (b := n) (by omega) (by omega)).mp (by rw [← hn, ← nI_add]; exact Int32.not_le.mp h222), h236⟩).1, show p + 2 = p + 1 + 1 from rfl, ← nI_add, ← nI_add]; rfl, by rw [(tz3 (kd3 hnp (fun z => absurd h69 (Int32.not_lt.mpr z.2)) (fun z => absurd h99 (Int32.not_lt.mpr z.1))) ⟨Or.inr h211, (nI_ltI (a := p + 1) (b := n) (by omega) (by omega)).mp (by rw [← hn, ← nI_add]; exact Int32.not_le.mp h222), h236⟩).2]; rfl⟩, rfl⟩)
        · refine Rn.step (pc' := 103) rfl rfl ?_
          refine Rn.iconst (v := 57) (pc' := 105) rfl (by decide) rfl ?_
          refine Rn.icmp_gt (pc1 := 182) (pc2 := 108) rfl rfl rfl (fun h105 => ?_) (fun h105 => ?_)
          · refine Rn.step (pc' := 183) rfl rfl ?_
            refine Rn.iconst (v := 3) (pc' := 184) rfl (by decide) rfl ?_
            refine Rn.cput (pc' := 187) rfl rfl rfl rfl rfl (by decide) rfl ?_
            rw [va_up_self, up_up]
            refine Rn.step (pc' := 188) rfl rfl ?_
            refine Rn.step (pc' := 189) rfl rfl ?_
            refine Rn.getf (pc' := 192) rfl rfl rfl rfl rfl ?_
            refine Rn.iconst (v := 1) (pc' := 193) rfl (by decide) rfl ?_
            refine Rn.iadd (pc' := 194) rfl rfl ?_
            refine Rn.cput (pc' := 197) rfl rfl rfl rfl rfl (by decide) rfl ?_
            rw [va_up_self, up_up]
            refine Rn.step (pc' := 198) rfl rfl ?_
            refine Rn.step (pc' := 199) rfl rfl ?_
            refine Rn.cput (pc' := 202) rfl rfl rfl rfl rfl (by decide) rfl ?_
            rw [va_up_self, up_up]
            refine Rn.step (pc' := 203) rfl rfl ?_
            refine Rn.iconst (v := 60) (pc' := 205) rfl (by decide) rfl ?_
            refine Rn.icmp_eq (pc1 := 214) (pc2 := 208) rfl rfl rfl (fun h205 => ?_) (fun h205 => ?_)
            · refine Rn.step (pc' := 215) rfl rfl ?_
              refine Rn.getf (pc' := 218) rfl rfl rfl rfl rfl ?_
              refine Rn.step (pc' := 219) rfl rfl ?_
              refine Rn.getf (pc' := 222) rfl rfl rfl rfl rfl ?_
              refine Rn.icmp_ge (pc1 := 261) (pc2 := 225) rfl rfl rfl (fun h222 => ?_) (fun h222 => ?_)
              · exact Rn.vret rfl (⟨rfl, _, rfl, ⟨hn, by rw [kd3 hnp (fun z => absurd h69 (Int32.not_lt.mpr z.2)) (fun z => absurd h105 (Int32.not_lt.mpr z.2))]; rfl, rfl, by rw [(tz4 (kd3 hnp (fun z => absurd h69 (Int32.not_lt.mpr z.2)) (fun z => absurd h105 (Int32.not_lt.mpr z.2))) (fun z => absurd ((nI_ltI (a := p + 1) (b := n) (by omega) (by omega)).mpr z.2.1) (Int32.not_lt.mpr (by rw [← hn, ← nI_add]; exact h222)))).1, ← nI_add]; rfl, by rw [(tz4 (kd3 hnp (fun z => absurd h69 (Int32.not_lt.mpr z.2)) (fun z => absurd h105 (Int32.not_lt.mpr z.2))) (fun z => absurd ((nI_ltI (a := p + 1) (b := n) (by omega) (by omega)).mpr z.2.1) (Int32.not_lt.mpr (by rw [← hn, ← nI_add]; exact h222)))).2]; rfl⟩, rfl⟩)
              · refine Rn.step (pc' := 226) rfl rfl ?_
                refine Rn.getf (pc' := 229) rfl rfl rfl rfl rfl ?_
                refine Rn.step (pc' := 230) rfl rfl ?_
                refine Rn.getf (pc' := 233) rfl rfl rfl rfl rfl ?_
                refine Rn.cbald (k := p + 1) (pc' := 234) rfl rfl (by rw [← nI_add]; rfl) ((nI_ltI (a := p + 1) (b := 400) (by omega) (by omega)).mp (by have := Int32.not_le.mp h222; exact Int32.lt_of_lt_of_le (by rw [← nI_add]; exact this) (by show F 1 1 ≤ _; rw [hn]; exact (nI_leI (by omega) (by omega)).mpr h4))) (rfl) (by decide) rfl ?_
                refine Rn.iconst (v := 61) (pc' := 236) rfl (by decide) rfl ?_
                refine Rn.icmp_ne (pc1 := 261) (pc2 := 239) rfl rfl rfl (fun h236 => ?_) (fun h236 => ?_)
                · exact Rn.vret rfl (⟨rfl, _, rfl, ⟨hn, by rw [kd3 hnp (fun z => absurd h69 (Int32.not_lt.mpr z.2)) (fun z => absurd h105 (Int32.not_lt.mpr z.2))]; rfl, rfl, by rw [(tz4 (kd3 hnp (fun z => absurd h69 (Int32.not_lt.mpr z.2)) (fun z => absurd h105 (Int32.not_lt.mpr z.2))) (fun z => h236 z.2.2)).1, ← nI_add]; rfl, by rw [(tz4 (kd3 hnp (fun z => absurd h69 (Int32.not_lt.mpr z.2)) (fun z => absurd h105 (Int32.not_lt.mpr z.2))) (fun z => h236 z.2.2)).2]; rfl⟩, rfl⟩)
                · refine Rn.step (pc' := 240) rfl rfl ?_
                  refine Rn.step (pc' := 241) rfl rfl ?_
                  refine Rn.getf (pc' := 244) rfl rfl rfl rfl rfl ?_
                  refine Rn.iconst (v := 1) (pc' := 245) rfl (by decide) rfl ?_
                  refine Rn.iadd (pc' := 246) rfl rfl ?_
                  refine Rn.cput (pc' := 249) rfl rfl rfl rfl rfl (by decide) rfl ?_
                  rw [va_up_self, up_up]
                  refine Rn.step (pc' := 250) rfl rfl ?_
                  refine Rn.step (pc' := 251) rfl rfl ?_
                  refine Rn.getf (pc' := 254) rfl rfl rfl rfl rfl ?_
                  refine Rn.iconst (v := 256) (pc' := 257) rfl (by decide) rfl ?_
                  refine Rn.iadd (pc' := 258) rfl rfl ?_
                  refine Rn.cput (pc' := 261) rfl rfl rfl rfl rfl (by decide) rfl ?_
                  rw [va_up_self, up_up]
                  exact Rn.vret rfl (⟨rfl, _, rfl, ⟨hn, by rw [kd3 hnp (fun z => absurd h69 (Int32.not_lt.mpr z.2)) (fun z => absurd h105 (Int32.not_lt.mpr z.2))]; rfl, rfl, by rw [(tz3 (kd3 hnp (fun z => absurd h69 (Int32.not_lt.mpr z.2)) (fun z => absurd h105 (Int32.not_lt.mpr z.2))) ⟨Or.inl h205, (nI_ltI (a := p + 1) (b := n) (by omega) (by omega)).mp (by rw [← hn, ← nI_add]; exact Int32.not_le.mp h222), h236⟩).1, show p + 2 = p + 1 + 1 from rfl, ← nI_add, ← nI_add]; rfl, by rw [(tz3 (kd3 hnp (fun z => absurd h69 (Int32.not_lt.mpr z.2)) (fun z => absurd h105 (Int32.not_lt.mpr z.2))) ⟨Or.inl h205, (nI_ltI (a := p + 1) (b := n) (by omega) (by omega)).mp (by rw [← hn, ← nI_add]; exact Int32.not_le.mp h222), h236⟩).2]; rfl⟩, rfl⟩)
            · refine Rn.step (pc' := 209) rfl rfl ?_
              refine Rn.iconst (v := 62) (pc' := 211) rfl (by decide) rfl ?_
              refine Rn.icmp_ne (pc1 := 261) (pc2 := 214) rfl rfl rfl (fun h211 => ?_) (fun h211 => ?_)
              · exact Rn.vret rfl (⟨rfl, _, rfl, ⟨hn, by rw [kd3 hnp (fun z => absurd h69 (Int32.not_lt.mpr z.2)) (fun z => absurd h105 (Int32.not_lt.mpr z.2))]; rfl, rfl, by rw [(tz4 (kd3 hnp (fun z => absurd h69 (Int32.not_lt.mpr z.2)) (fun z => absurd h105 (Int32.not_lt.mpr z.2))) (fun z => z.1.elim h205 h211)).1, ← nI_add]; rfl, by rw [(tz4 (kd3 hnp (fun z => absurd h69 (Int32.not_lt.mpr z.2)) (fun z => absurd h105 (Int32.not_lt.mpr z.2))) (fun z => z.1.elim h205 h211)).2]; rfl⟩, rfl⟩)
              · refine Rn.step (pc' := 215) rfl rfl ?_
                refine Rn.getf (pc' := 218) rfl rfl rfl rfl rfl ?_
                refine Rn.step (pc' := 219) rfl rfl ?_
                refine Rn.getf (pc' := 222) rfl rfl rfl rfl rfl ?_
                refine Rn.icmp_ge (pc1 := 261) (pc2 := 225) rfl rfl rfl (fun h222 => ?_) (fun h222 => ?_)
                · exact Rn.vret rfl (⟨rfl, _, rfl, ⟨hn, by rw [kd3 hnp (fun z => absurd h69 (Int32.not_lt.mpr z.2)) (fun z => absurd h105 (Int32.not_lt.mpr z.2))]; rfl, rfl, by rw [(tz4 (kd3 hnp (fun z => absurd h69 (Int32.not_lt.mpr z.2)) (fun z => absurd h105 (Int32.not_lt.mpr z.2))) (fun z => absurd ((nI_ltI (a := p + 1) (b := n) (by omega) (by omega)).mpr z.2.1) (Int32.not_lt.mpr (by rw [← hn, ← nI_add]; exact h222)))).1, ← nI_add]; rfl, by rw [(tz4 (kd3 hnp (fun z => absurd h69 (Int32.not_lt.mpr z.2)) (fun z => absurd h105 (Int32.not_lt.mpr z.2))) (fun z => absurd ((nI_ltI (a := p + 1) (b := n) (by omega) (by omega)).mpr z.2.1) (Int32.not_lt.mpr (by rw [← hn, ← nI_add]; exact h222)))).2]; rfl⟩, rfl⟩)
                · refine Rn.step (pc' := 226) rfl rfl ?_
                  refine Rn.getf (pc' := 229) rfl rfl rfl rfl rfl ?_
                  refine Rn.step (pc' := 230) rfl rfl ?_
                  refine Rn.getf (pc' := 233) rfl rfl rfl rfl rfl ?_
                  refine Rn.cbald (k := p + 1) (pc' := 234) rfl rfl (by rw [← nI_add]; rfl) ((nI_ltI (a := p + 1) (b := 400) (by omega) (by omega)).mp (by have := Int32.not_le.mp h222; exact Int32.lt_of_lt_of_le (by rw [← nI_add]; exact this) (by show F 1 1 ≤ _; rw [hn]; exact (nI_leI (by omega) (by omega)).mpr h4))) (rfl) (by decide) rfl ?_
                  refine Rn.iconst (v := 61) (pc' := 236) rfl (by decide) rfl ?_
                  refine Rn.icmp_ne (pc1 := 261) (pc2 := 239) rfl rfl rfl (fun h236 => ?_) (fun h236 => ?_)
                  · exact Rn.vret rfl (⟨rfl, _, rfl, ⟨hn, by rw [kd3 hnp (fun z => absurd h69 (Int32.not_lt.mpr z.2)) (fun z => absurd h105 (Int32.not_lt.mpr z.2))]; rfl, rfl, by rw [(tz4 (kd3 hnp (fun z => absurd h69 (Int32.not_lt.mpr z.2)) (fun z => absurd h105 (Int32.not_lt.mpr z.2))) (fun z => h236 z.2.2)).1, ← nI_add]; rfl, by rw [(tz4 (kd3 hnp (fun z => absurd h69 (Int32.not_lt.mpr z.2)) (fun z => absurd h105 (Int32.not_lt.mpr z.2))) (fun z => h236 z.2.2)).2]; rfl⟩, rfl⟩)
                  · refine Rn.step (pc' := 240) rfl rfl ?_
                    refine Rn.step (pc' := 241) rfl rfl ?_
                    refine Rn.getf (pc' := 244) rfl rfl rfl rfl rfl ?_
                    refine Rn.iconst (v := 1) (pc' := 245) rfl (by decide) rfl ?_
                    refine Rn.iadd (pc' := 246) rfl rfl ?_
                    refine Rn.cput (pc' := 249) rfl rfl rfl rfl rfl (by decide) rfl ?_
                    rw [va_up_self, up_up]
                    refine Rn.step (pc' := 250) rfl rfl ?_
                    refine Rn.step (pc' := 251) rfl rfl ?_
                    refine Rn.getf (pc' := 254) rfl rfl rfl rfl rfl ?_
                    refine Rn.iconst (v := 256) (pc' := 257) rfl (by decide) rfl ?_
                    refine Rn.iadd (pc' := 258) rfl rfl ?_
                    refine Rn.cput (pc' := 261) rfl rfl rfl rfl rfl (by decide) rfl ?_
                    rw [va_up_self, up_up]
                    exact Rn.vret rfl (⟨rfl, _, rfl, ⟨hn, by rw [kd3 hnp (fun z => absurd h69 (Int32.not_lt.mpr z.2)) (fun z => absurd h105 (Int32.not_lt.mpr z.2))]; rfl, rfl, by rw [(tz3 (kd3 hnp (fun z => absurd h69 (Int32.not_lt.mpr z.2)) (fun z => absurd h105 (Int32.not_lt.mpr z.2))) ⟨Or.inr h211, (nI_ltI (a := p + 1) (b := n) (by omega) (by omega)).mp (by rw [← hn, ← nI_add]; exact Int32.not_le.mp h222), h236⟩).1, show p + 2 = p + 1 + 1 from rfl, ← nI_add, ← nI_add]; rfl, by rw [(tz3 (kd3 hnp (fun z => absurd h69 (Int32.not_lt.mpr z.2)) (fun z => absurd h105 (Int32.not_lt.mpr z.2))) ⟨Or.inr h211, (nI_ltI (a := p + 1) (b := n) (by omega) (by omega)).mp (by rw [← hn, ← nI_add]; exact Int32.not_le.mp h222), h236⟩).2]; rfl⟩, rfl⟩)
          · refine Rn.step (pc' := 109) rfl rfl ?_
            refine Rn.iconst (v := 2) (pc' := 110) rfl (by decide) rfl ?_
            refine Rn.cput (pc' := 113) rfl rfl rfl rfl rfl (by decide) rfl ?_
            rw [va_up_self, up_up]
            refine Rn.step (pc' := 114) rfl rfl ?_
            refine Rn.step (pc' := 115) rfl rfl ?_
            refine Rn.step (pc' := 116) rfl rfl ?_
            refine Rn.getf (pc' := 119) rfl rfl rfl rfl rfl ?_
            refine Rn.iconst (v := 48) (pc' := 121) rfl (by decide) rfl ?_
            refine Rn.iconst (v := 57) (pc' := 123) rfl (by decide) rfl ?_
            refine Rn.vi (pc' := 126) rfl (by decide) (by omega) rfl rfl rfl (c_T_run (n := n) (by exact hn) h4 p (by omega)) ?_
            refine Rn.cput (pc' := 129) rfl rfl rfl rfl rfl (by decide) rfl ?_
            rw [va_up_self, up_up]
            refine Rn.step (pc' := 130) rfl rfl ?_
            refine Rn.getf (pc' := 133) rfl rfl rfl rfl rfl ?_
            refine Rn.step (pc' := 134) rfl rfl ?_
            refine Rn.conseq (l_T_dig (m0 := m0) (F := F) (I := I) (L := L) (R := R) (H := H) (p := p) (q := rnE 48 57 (I 2) n p) ⟨rnE_ge, Nat.le_trans (rnE_le (by omega)) h4⟩ _ rfl rfl p ⟨Nat.le_refl _, rnE_ge, by omega⟩) ?_
            rintro r m2 ⟨rfl, f1, rfl, e1, e2⟩
            refine ⟨rfl, f1, rfl, ⟨(e1 1 (by decide)).trans hn, (e1 3 (by decide)).trans (by rw [kd2 hnp (fun z => absurd h69 (Int32.not_lt.mpr z.2)) ⟨Int32.not_lt.mp h99, Int32.not_lt.mp h105⟩]; rfl), (e1 4 (by decide)).trans rfl, (e1 5 (by decide)).trans (by rw [(tz2 (kd2 hnp (fun z => absurd h69 (Int32.not_lt.mpr z.2)) ⟨Int32.not_lt.mp h99, Int32.not_lt.mp h105⟩)).1]; rfl), e2.trans (by rw [(tz2 (kd2 hnp (fun z => absurd h69 (Int32.not_lt.mpr z.2)) ⟨Int32.not_lt.mp h99, Int32.not_lt.mp h105⟩)).2, Nat.sub_self]; rfl)⟩, (e1 2 (by decide)).trans rfl⟩
      · refine Rn.step (pc' := 73) rfl rfl ?_
        refine Rn.iconst (v := 1) (pc' := 74) rfl (by decide) rfl ?_
        refine Rn.cput (pc' := 77) rfl rfl rfl rfl rfl (by decide) rfl ?_
        rw [va_up_self, up_up]
        refine Rn.step (pc' := 78) rfl rfl ?_
        refine Rn.step (pc' := 79) rfl rfl ?_
        refine Rn.step (pc' := 80) rfl rfl ?_
        refine Rn.getf (pc' := 83) rfl rfl rfl rfl rfl ?_
        refine Rn.iconst (v := 97) (pc' := 85) rfl (by decide) rfl ?_
        refine Rn.iconst (v := 122) (pc' := 87) rfl (by decide) rfl ?_
        refine Rn.vi (pc' := 90) rfl (by decide) (by omega) rfl rfl rfl (c_T_run (n := n) (by exact hn) h4 p (by omega)) ?_
        refine Rn.cput (pc' := 93) rfl rfl rfl rfl rfl (by decide) rfl ?_
        rw [va_up_self, up_up]
        refine Rn.step (pc' := 261) rfl rfl ?_
        exact Rn.vret rfl (⟨rfl, _, rfl, ⟨hn, by rw [kd1 hnp ⟨Int32.not_lt.mp h63, Int32.not_lt.mp h69⟩]; rfl, rfl, by rw [(tz1 (kd1 hnp ⟨Int32.not_lt.mp h63, Int32.not_lt.mp h69⟩)).1]; rfl, by rw [(tz1 (kd1 hnp ⟨Int32.not_lt.mp h63, Int32.not_lt.mp h69⟩)).2]; rfl⟩, rfl⟩)
  · have hge : n ≤ p := by
      have := mt (nI_ltI (a := p) (b := n) (by omega) (by omega)).mpr (fun z => h37 (show nI p < F 1 1 by rw [hn]; exact z))
      omega
    refine Rn.step (pc' := 41) rfl rfl ?_
    refine Rn.iconst (v := 0) (pc' := 42) rfl (by decide) rfl ?_
    refine Rn.cput (pc' := 45) rfl rfl rfl rfl rfl (by decide) rfl ?_
    rw [va_up_self, up_up]
    exact Rn.vret rfl (⟨rfl, _, rfl, ⟨hn, by rw [kd0 hge]; rfl, rfl, by rw [(tz0 (kd0 hge)).1]; rfl, by rw [(tz0 (kd0 hge)).2]; rfl⟩, rfl⟩)
theorem c_T_open {d n : Nat} (hd : 2 ≤ d) (hn : F 1 1 = nI n) (h4 : n ≤ 400) : Cl d j_Tape_open [.ref 1] (CC m0 F I L R H) (fun r m2 => r = none ∧ ∃ f1, m2 = (CC m0 (va_up F 1 f1) I L R H) ∧ TP f1 (I 2) n (skE (I 2) n 0) ∧ f1 2 = 0) := by
  show Rn d j_Tape_open 0 _ _ _ _
  refine Rn.step (pc' := 1) rfl rfl ?_
  refine Rn.iconst (v := 0) (pc' := 2) rfl (by decide) rfl ?_
  refine Rn.cput (pc' := 5) rfl rfl rfl rfl rfl (by decide) rfl ?_
  refine Rn.step (pc' := 6) rfl rfl ?_
  refine Rn.iconst (v := 0) (pc' := 7) rfl (by decide) rfl ?_
  refine Rn.cput (pc' := 10) rfl rfl rfl rfl rfl (by decide) rfl ?_
  rw [va_up_self, up_up]
  refine Rn.step (pc' := 11) rfl rfl ?_
  refine Rn.callV (pc' := 14) rfl (by decide) (by omega) rfl rfl rfl (c_T_next (n := n) (q := 0) (by omega) hn h4 rfl (Nat.zero_le _)) (fun r_ m_ hc_ => ?_)
  obtain ⟨rfl, f1, rfl, e1, e2⟩ := hc_
  exact Rn.vret rfl (⟨rfl, f1, by rw [up_up], e1, e2⟩)
theorem by_all : ∀ k : Fin 128, nI k.1 &&& 255 = nI k.1 := by decide +kernel
theorem by255 (b : Int32) (h1 : -128 ≤ b) (h2 : b ≤ 127) (h3 : 0 ≤ b) : b &&& 255 = b := by
  obtain ⟨k, hk, rfl⟩ := xN (lo := 0) (hi := 127) (n := 127) (by decide) (by decide) ⟨h3, h2⟩
  exact by_all ⟨k, by omega⟩
theorem kd_le {T : Nat → Int32} {n p : Nat} (hT : ∀ i, -128 ≤ T i ∧ T i ≤ 127) (h : ¬ kdE T n p = 1) : leE T n p = p := by
  refine rnE_z (fun z => h (kd1 (by omega) ?_))
  have e : fcE T p = T p := by255 (T p) (hT p).1 (hT p).2 (Int32.le_trans (by decide) z.2.1)
  rw [e]
  exact z.2
theorem wix_e {T : Nat → Int32} {p : Nat} : ∀ (ws : List (List Nat)) (k : Nat), (∀ x, x ∈ ws → x ≠ []) → wix T p p ws k = -1
  | [], _, _ => rfl
  | x :: r, k, h => by
    have hx : ¬ wdP T p p x := fun z => by
      have h1 := z.1
      rw [Nat.sub_self] at h1
      exact h x (List.mem_cons_self ..) (List.length_eq_zero_iff.mp h1.symm)
    show (if wdP T p p x then nI k else _) = _
    rw [if_neg hx]
    exact wix_e r (k + 1) (fun y hy => h y (List.mem_cons_of_mem _ hy))
theorem tkE_b {T : Nat → Int32} {n p : Nat} (h4 : n ≤ 400) (hp : p ≤ n) : p ≤ tkE T n p ∧ tkE T n p ≤ 400 := by
  have : p ≤ tkE T n p ∧ tkE T n p ≤ n := by
    unfold tkE
    split
    · omega
    · split
      · exact ⟨rnE_ge, rnE_le hp⟩
      · split
        · exact ⟨rnE_ge, rnE_le hp⟩
        · rename_i h0 _ _
          have hl : p < n := Nat.lt_of_not_le (fun z => h0 (kd0 z))
          split
          · rename_i h
            exact ⟨by omega, by have := h.2.1; omega⟩
          · omega
  omega
theorem wix_k {T f : Nat → Int32} {n p : Nat} (hT : ∀ i, -128 ≤ T i ∧ T i ≤ 127) (ws : List (List Nat)) (hw : ∀ x, x ∈ ws → x ≠ []) (hf : f 3 = nI (kdE T n p)) : (if f 3 = 1 then wix T p (tkE T n p) ws 0 else -1) = wix T p (leE T n p) ws 0 := by
  by_cases h : kdE T n p = 1
  · rw [hf, h, if_pos (show nI 1 = 1 from rfl), (tz1 h).1]
  · have hk : kdE T n p < 4 := by
      unfold kdE
      split
      · omega
      · split
        · omega
        · split <;> omega
    rw [hf, if_neg (show ¬ nI (kdE T n p) = 1 from fun z => h ((nI_eq (a := kdE T n p) (b := 1) (by omega) (by omega)).mp z)), kd_le hT h, wix_e ws 0 hw]
theorem c_T_w0 {d n p : Nat} (hd : 6 ≤ d) (hS : STR0 m0) (hT : ∀ i, -128 ≤ I 2 i ∧ I 2 i ≤ 127) (ht : TP (F 1) (I 2) n p) (h4 : n ≤ 400) (hp : p ≤ n) : Cl d j_Tape_wordIn [.ref 1, .ref (xS + 0)] (CC m0 F I L R H) (Pi (wix (I 2) p (leE (I 2) n p) ws0 0) (CC m0 F I L R H)) := by
  have hq : p ≤ tkE (I 2) n p ∧ tkE (I 2) n p ≤ 400 := tkE_b h4 hp
  have := c_T_word (F := F) (I := I) (L := L) (R := R) (H := H) (m0 := m0) (d := d) (p := p) (q := tkE (I 2) n p) (a := xS + 0) (N := 38) (g := sgN 0) hd ht.2.2.1 ht.2.2.2.1 hq (by omega) (hS.str (k := 0) (by omega))
  rw [wi_0] at this
  rw [← wix_k hT ws0 (by decide) ht.2.1]
  exact this
theorem c_T_w1 {d n p : Nat} (hd : 6 ≤ d) (hS : STR0 m0) (hT : ∀ i, -128 ≤ I 2 i ∧ I 2 i ≤ 127) (ht : TP (F 1) (I 2) n p) (h4 : n ≤ 400) (hp : p ≤ n) : Cl d j_Tape_wordIn [.ref 1, .ref (xS + 2)] (CC m0 F I L R H) (Pi (wix (I 2) p (leE (I 2) n p) ws1 0) (CC m0 F I L R H)) := by
  have hq : p ≤ tkE (I 2) n p ∧ tkE (I 2) n p ≤ 400 := tkE_b h4 hp
  have := c_T_word (F := F) (I := I) (L := L) (R := R) (H := H) (m0 := m0) (d := d) (p := p) (q := tkE (I 2) n p) (a := xS + 2) (N := 4) (g := sgN 1) hd ht.2.2.1 ht.2.2.2.1 hq (by omega) (hS.str (k := 1) (by omega))
  rw [wi_1] at this
  rw [← wix_k hT ws1 (by decide) ht.2.1]
  exact this
theorem c_T_w2 {d n p : Nat} (hd : 6 ≤ d) (hS : STR0 m0) (hT : ∀ i, -128 ≤ I 2 i ∧ I 2 i ≤ 127) (ht : TP (F 1) (I 2) n p) (h4 : n ≤ 400) (hp : p ≤ n) : Cl d j_Tape_wordIn [.ref 1, .ref (xS + 4)] (CC m0 F I L R H) (Pi (wix (I 2) p (leE (I 2) n p) ws2 0) (CC m0 F I L R H)) := by
  have hq : p ≤ tkE (I 2) n p ∧ tkE (I 2) n p ≤ 400 := tkE_b h4 hp
  have := c_T_word (F := F) (I := I) (L := L) (R := R) (H := H) (m0 := m0) (d := d) (p := p) (q := tkE (I 2) n p) (a := xS + 4) (N := 82) (g := sgN 2) hd ht.2.2.1 ht.2.2.2.1 hq (by omega) (hS.str (k := 2) (by omega))
  rw [wi_2] at this
  rw [← wix_k hT ws2 (by decide) ht.2.1]
  exact this
theorem c_T_w3 {d n p : Nat} (hd : 6 ≤ d) (hS : STR0 m0) (hT : ∀ i, -128 ≤ I 2 i ∧ I 2 i ≤ 127) (ht : TP (F 1) (I 2) n p) (h4 : n ≤ 400) (hp : p ≤ n) : Cl d j_Tape_wordIn [.ref 1, .ref (xS + 6)] (CC m0 F I L R H) (Pi (wix (I 2) p (leE (I 2) n p) ws3 0) (CC m0 F I L R H)) := by
  have hq : p ≤ tkE (I 2) n p ∧ tkE (I 2) n p ≤ 400 := tkE_b h4 hp
  have := c_T_word (F := F) (I := I) (L := L) (R := R) (H := H) (m0 := m0) (d := d) (p := p) (q := tkE (I 2) n p) (a := xS + 6) (N := 2) (g := sgN 3) hd ht.2.2.1 ht.2.2.2.1 hq (by omega) (hS.str (k := 3) (by omega))
  rw [wi_3] at this
  rw [← wix_k hT ws3 (by decide) ht.2.1]
  exact this
theorem c_T_w4 {d n p : Nat} (hd : 6 ≤ d) (hS : STR0 m0) (hT : ∀ i, -128 ≤ I 2 i ∧ I 2 i ≤ 127) (ht : TP (F 1) (I 2) n p) (h4 : n ≤ 400) (hp : p ≤ n) : Cl d j_Tape_wordIn [.ref 1, .ref (xS + 8)] (CC m0 F I L R H) (Pi (wix (I 2) p (leE (I 2) n p) ws4 0) (CC m0 F I L R H)) := by
  have hq : p ≤ tkE (I 2) n p ∧ tkE (I 2) n p ≤ 400 := tkE_b h4 hp
  have := c_T_word (F := F) (I := I) (L := L) (R := R) (H := H) (m0 := m0) (d := d) (p := p) (q := tkE (I 2) n p) (a := xS + 8) (N := 3) (g := sgN 4) hd ht.2.2.1 ht.2.2.2.1 hq (by omega) (hS.str (k := 4) (by omega))
  rw [wi_4] at this
  rw [← wix_k hT ws4 (by decide) ht.2.1]
  exact this
theorem c_T_w5 {d n p : Nat} (hd : 6 ≤ d) (hS : STR0 m0) (hT : ∀ i, -128 ≤ I 2 i ∧ I 2 i ≤ 127) (ht : TP (F 1) (I 2) n p) (h4 : n ≤ 400) (hp : p ≤ n) : Cl d j_Tape_wordIn [.ref 1, .ref (xS + 10)] (CC m0 F I L R H) (Pi (wix (I 2) p (leE (I 2) n p) ws5 0) (CC m0 F I L R H)) := by
  have hq : p ≤ tkE (I 2) n p ∧ tkE (I 2) n p ≤ 400 := tkE_b h4 hp
  have := c_T_word (F := F) (I := I) (L := L) (R := R) (H := H) (m0 := m0) (d := d) (p := p) (q := tkE (I 2) n p) (a := xS + 10) (N := 6) (g := sgN 5) hd ht.2.2.1 ht.2.2.2.1 hq (by omega) (hS.str (k := 5) (by omega))
  rw [wi_5] at this
  rw [← wix_k hT ws5 (by decide) ht.2.1]
  exact this
end CX
