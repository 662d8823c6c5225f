/-! THE GRAMMAR: a rule that is read is one that both can reckon. -/
section NP2
variable {m0 : xM} {v : Nat → Int32} {dx : Int64} {A : Nat → Nat → Int32} {LA : Nat → Nat → Int64} {s : Nat → Int32}
section X2
variable {T : Nat → Int32} {n : Nat}
def tsK (K : tkL) : Nat → Nat × Nat := fun i => K.getD i (0, 0)
theorem tsK_at (A B : tkL) (c : Nat × Nat) : tsK (A ++ (c :: B)) A.length = c := by
  unfold tsK
  rw [List.getD_eq_getElem?_getD, List.getElem?_append_right (Nat.le_refl _), Nat.sub_self]
  rfl
theorem nl_or (x : tkL) : x = [] ∨ ∃ y c, x = y ++ [c] := by
  rcases List.eq_nil_or_concat x with h | ⟨y, c, h⟩
  · exact Or.inl h
  · exact Or.inr ⟨y, c, by rw [h, List.concat_eq_append]⟩
theorem dpt_L (wd : Nat → Int64) : ∀ (m : Nat) (U A B : tkL), U.length = m → dpt (tsK (A ++ (U ++ B))) A.length m = dptL U 0 ∧ stk wd (tsK (A ++ (U ++ B))) A.length m = stkL wd U []
  | 0, U, A, B, h => by
    obtain rfl := List.length_eq_zero_iff.mp h
    exact ⟨rfl, rfl⟩
  | m + 1, U, A, B, h => by
    rcases nl_or U with rfl | ⟨V, c, rfl⟩
    · exact absurd h (by show ¬ 0 = m + 1; omega)
    · rw [List.length_append, List.length_singleton] at h
      have hV : V.length = m := by omega
      have e : A ++ (V ++ [c] ++ B) = A ++ (V ++ (c :: B)) := by
        rw [List.append_assoc, List.singleton_append]
      obtain ⟨i1, i2⟩ := dpt_L wd m V A (c :: B) hV
      have et : tsK (A ++ (V ++ (c :: B))) (A.length + m) = c := by
        rw [← List.append_assoc, ← hV, ← List.length_append]
        exact tsK_at _ _ _
      rw [e]
      constructor
      · show (dpt _ A.length m).bind (tkd _) = _
        rw [i1, et, dptL_app]
        congr 1
        funext k
        show tkd c k = (tkd c k).bind (fun j => some j)
        cases tkd c k <;> rfl
      · show tkx wd _ (stk wd _ A.length m) = _
        rw [i2, et, stkL_app]
        rfl
/-- a clause whose SUM and TEST are blocks of what is put -/
def okQ (K : tkL) (q : xCl4) : Prop := (∃ A U B, K = A ++ (U ++ B) ∧ A.length = q.1 ∧ q.1 + U.length = q.2.1 ∧ BK 3 False U) ∧ ((q.2.2.1 = none ∧ q.2.2.2 = q.2.1) ∨ (q.2.2.1 = some q.2.1 ∧ ∃ A V B, K = A ++ (V ++ B) ∧ A.length = q.2.1 ∧ q.2.1 + V.length = q.2.2.2 ∧ BK 26 True V))
theorem okQ.more {K : tkL} {q : xCl4} (h : okQ K q) (M : tkL) : okQ (K ++ M) q := by
  obtain ⟨⟨A, U, B, e, a, b, c⟩, h2⟩ := h
  refine ⟨⟨A, U, B ++ M, by rw [e, List.append_assoc, List.append_assoc], a, b, c⟩, ?_⟩
  rcases h2 with h2 | ⟨h2, A, V, B, e, a, b, c⟩
  · exact Or.inl h2
  · exact Or.inr ⟨h2, A, V, B ++ M, by rw [e, List.append_assoc, List.append_assoc], a, b, c⟩
def chn : Nat → List xCl4 → Nat → Prop
  | b, [], e => b = e
  | b, q :: r, e => q.1 = b ∧ chn q.2.2.2 r e
theorem chn_add : ∀ (cl : List xCl4) (b e : Nat) (q : xCl4), chn b cl e → q.1 = e → chn b (cl ++ [q]) q.2.2.2
  | [], b, e, q, h, hq => ⟨hq.trans h.symm, rfl⟩
  | x :: r, b, e, q, h, hq => ⟨h.1, chn_add r _ e q h.2 hq⟩
theorem BK.ne {h : Nat} {vv : Prop} {U : tkL} (b : BK h vv U) (hh : h ≤ 40) : 0 < U.length := by
  cases U with
  | nil =>
    have := b.2.1 0 (by omega)
    exact absurd (Option.some.inj this) (by omega)
  | cons c r => exact Nat.succ_pos _
/-- all that is read is good -/
abbrev allQ (s : gS) (cl : List xCl4) : Prop := (∀ t, t ∈ s.2.2 → tOk t) ∧ (∀ q, q ∈ cl → okQ s.2.2 q) ∧ chn 0 cl s.2.2.length
theorem gW_k (hT : ∀ i, -128 ≤ T i ∧ T i ≤ 127) {s : gS} {cl : List xCl4} {z : gS × List xCl4} (hs : s.1 ≤ n) (hA : allQ s cl) (h : gW T n s cl = .inr z) : allQ z.1 z.2 ∧ z.1.1 ≤ n := by
  obtain ⟨t1, t2, t3⟩ := hA
  unfold gW at h
  obtain ⟨a, e1, e2⟩ := gBq_r h
  have b1 := gSu_b (t := gAd T n s) hT (nx_le hs) e1
  obtain ⟨U, p1, k1⟩ := gSu_k (s := gAd T n s) hT (nx_le hs) e1
  have p1' : a.2.2 = s.2.2 ++ U := p1
  have la : a.2.2.length = s.2.2.length + U.length := by rw [p1', List.length_append]
  by_cases h3 : wix T a.1 (leE T n a.1) ws3 0 = 0
  · rw [if_pos h3] at e2
    obtain ⟨b, e3, e4⟩ := gBq_r e2
    obtain rfl := Sum.inr.inj e4
    obtain ⟨V, p2, k2⟩ := gTs_10 (s := gAd T n a) hT (nx_le b1.2.1) e3
    have g2 := gTs_b hT (gFa_b hT 10) (show (gAd T n a).1 ≤ n from nx_le b1.2.1) e3
    unfold gB at g2
    have p2' : b.2.2 = a.2.2 ++ V := p2
    have lb : b.2.2.length = a.2.2.length + V.length := by rw [p2', List.length_append]
    have eb : b.2.2 = s.2.2 ++ (U ++ V) := by rw [p2', p1', List.append_assoc]
    refine ⟨⟨?_, fun q hq => ?_, ?_⟩, g2.2.1⟩
    · show ∀ t, t ∈ b.2.2 → tOk t
      rw [eb]
      exact mem_app t1 (mem_app k1.1 k2.1)
    · show okQ b.2.2 q
      rcases List.mem_append.mp hq with hq | hq
      · rw [eb]
        exact (t2 q hq).more _
      · rw [List.mem_singleton.mp hq]
        refine ⟨⟨s.2.2, U, V, eb, rfl, la.symm, k1⟩, Or.inr ⟨rfl, a.2.2, V, [], by rw [p2', List.append_nil], rfl, lb.symm, k2⟩⟩
    · exact chn_add cl 0 _ _ t3 rfl
  · rw [if_neg h3] at e2
    obtain rfl := Sum.inr.inj e2
    refine ⟨⟨?_, fun q hq => ?_, ?_⟩, b1.2.1⟩
    · show ∀ t, t ∈ a.2.2 → tOk t
      rw [p1']
      exact mem_app t1 k1.1
    · show okQ a.2.2 q
      rcases List.mem_append.mp hq with hq | hq
      · rw [p1']
        exact (t2 q hq).more _
      · rw [List.mem_singleton.mp hq]
        exact ⟨⟨s.2.2, U, [], by rw [p1', List.append_nil], rfl, la.symm, k1⟩, Or.inl ⟨rfl, rfl⟩⟩
    · exact chn_add cl 0 _ _ t3 rfl
theorem gRd_k (hT : ∀ i, -128 ≤ T i ∧ T i ≤ 127) : ∀ (f : Nat) (s : gS) (cl : List xCl4) (z : gS × List xCl4), s.1 ≤ n → allQ s cl → gRd T n f s cl = .inr z → allQ z.1 z.2
  | 0, _, _, _, _, _, h => nomatch h
  | f + 1, s, cl, z, hs, hA, h => by
    rw [gRd_c] at h
    cases hX : gCl T n s cl with
    | inl e =>
      rw [hX] at h
      exact nomatch h
    | inr y =>
      rw [hX] at h
      have h' : gEd T n (gRd T n f) y.1 y.2 = .inr z := h
      unfold gCl at hX
      by_cases w1 : wix T s.1 (leE T n s.1) ws1 0 < 0
      · rw [if_pos w1] at hX
        exact nomatch hX
      · rw [if_neg w1] at hX
        by_cases w2 : cl.length = 12
        · rw [if_pos w2] at hX
          exact nomatch hX
        · rw [if_neg w2] at hX
          obtain ⟨g1, g2⟩ := gW_k hT hs hA hX
          rcases gEd_r h' with h5 | rfl
          · exact gRd_k hT f (gAd T n y.1) y.2 z (nx_le g2) g1 h5
          · exact g1
theorem nl_cl {K : tkL} {q : xCl4} (h : okQ K q) : q.1 ≤ q.2.1 ∧ q.2.1 ≤ K.length ∧ dpt (tsK K) q.1 (q.2.1 - q.1) = some 1 ∧ (q.2.2.1 = none → q.2.2.2 = q.2.1) ∧ ∀ t, q.2.2.1 = some t → t = q.2.1 ∧ q.2.1 < q.2.2.2 ∧ q.2.2.2 ≤ K.length ∧ dpt (tsK K) t (q.2.2.2 - t) = some 1 ∧ ∀ wd, (stk wd (tsK K) t (q.2.2.2 - t)).headD 0 = 0 ∨ (stk wd (tsK K) t (q.2.2.2 - t)).headD 0 = 1 := by
  obtain ⟨⟨A, U, B, e, a, b, c⟩, h2⟩ := h
  have hl : K.length = A.length + (U.length + B.length) := by rw [e, List.length_append, List.length_append]
  refine ⟨by omega, by omega, ?_, ?_, ?_⟩
  · rw [← a, show q.2.1 - A.length = U.length by omega]
    conv => lhs; rw [e]
    rw [(dpt_L (fun _ => 0) U.length U A B rfl).1]
    exact c.2.1 0 (by omega)
  · intro z
    rcases h2 with h2 | ⟨h2, _⟩
    · exact h2.2
    · rw [h2] at z
      exact nomatch z
  · intro t ht
    rcases h2 with ⟨h2, _⟩ | ⟨h2, A2, V, B2, e2, a2, b2, c2⟩
    · rw [h2] at ht
      exact nomatch ht
    · rw [h2] at ht
      obtain rfl := Option.some.inj ht
      have hl2 : K.length = A2.length + (V.length + B2.length) := by rw [e2, List.length_append, List.length_append]
      have hv := c2.ne (by omega)
      refine ⟨rfl, by omega, by omega, ?_, fun wd => ?_⟩
      · rw [← a2, show q.2.2.2 - A2.length = V.length by omega]
        conv => lhs; rw [e2]
        rw [(dpt_L (fun _ => 0) V.length V A2 B2 rfl).1]
        exact c2.2.1 0 (by omega)
      · have es : stk wd (tsK K) q.2.1 (q.2.2.2 - q.2.1) = stkL wd V [] := by
          rw [← a2, show q.2.2.2 - A2.length = V.length by omega]
          conv => lhs; rw [e2]
          exact (dpt_L wd V.length V A2 B2 rfl).2
        rw [es]
        obtain ⟨x, ex, fx⟩ := c2.2.2 wd []
        rw [ex]
        exact fx trivial
theorem ClC_of {K : tkL} {fe : Nat → Int32} : ∀ (r : List xCl4) (c b e : Nat), chn b r e → (∀ q, q ∈ r → okQ K q) → (∀ i q, r[i]? = some q → fe (2 * (c + i)) = nI q.2.1 ∧ fe (2 * (c + i) + 1) = nI q.2.2.2) → ClC (tsK K) K.length fe c b r
  | [], _, _, _, _, _, _ => trivial
  | q :: r, c, b, e, h, hq, hf => by
    obtain ⟨k1, k2, k3, k4, k5⟩ := nl_cl (hq q List.mem_cons_self)
    have hb : q.1 = b := h.1
    rw [hb] at k1 k3
    refine ⟨(hf 0 q rfl).1, (hf 0 q rfl).2, hb, k1, k2, k3, k4, k5, ?_⟩
    exact ClC_of r (c + 1) q.2.2.2 e h.2 (fun x hx => hq x (List.mem_cons_of_mem _ hx)) (fun i x hx => by
      have := hf (i + 1) x (by rw [List.getElem?_cons_succ]; exact hx)
      rw [show c + 1 + i = c + (i + 1) by omega]
      exact this)
/-- the rule that was read, for both -/
def rlK (z : gS × List xCl4) : (Nat → Nat × Nat) × Nat × List xCl4 := (tsK z.1.2.2, z.1.2.2.length, z.2)
theorem RuW_of {A : Nat → Nat → Int32} {r : Nat} {z : gS × List xCl4} (hA : allQ z.1 z.2) (hN : z.1.2.2.length ≤ 400) (hL : z.2.length ≤ 12) (h1 : ∀ i, i < z.1.2.2.length → A 52 (400 * r + i) = nI (tkN (z.1.2.2.getD i (0, 0)))) (h2 : A 55 r = nI z.2.length) (h3 : ECl A r z.2) : RuW A r (rlK z).1 (rlK z).2.1 (rlK z).2.2 := by
  refine ⟨h2, hL, hN, fun i hi => ⟨h1 i hi, hA.1 _ ?_⟩, fun c q hq => ?_⟩
  · show tsK z.1.2.2 i ∈ _
    unfold tsK
    rw [List.getD_eq_getElem?_getD, List.getElem?_eq_getElem hi]
    exact List.getElem_mem _
  · obtain ⟨e0, e1, e2, e3⟩ := h3 c q hq
    obtain ⟨k1, k2, k3, k4, k5⟩ := nl_cl (hA.2.1 q (List.mem_of_getElem? hq))
    exact ⟨e0, e1, e2, e3, k1, k2, k3, fun t ht => by
      obtain ⟨j1, j2, j3, j4, _⟩ := k5 t ht
      exact ⟨by omega, j3, j4⟩⟩
theorem RuC_of {m : xM} {a S En : Nat} {g1 g2 : Nat → Int32} {z : gS × List xCl4} (hA : allQ z.1 z.2) (hN : z.1.2.2.length ≤ 400) (hL : z.2.length ≤ 12) (ha : 69 ≤ a ∧ a < xS ∧ 69 ≤ S ∧ 69 ≤ En) (m1 : m.2.2 a = some (.inr (6, [.ref S, .ref En]))) (m2 : m.2.2 S = some (.inl (0, z.1.2.2.length, xints g1))) (m3 : m.2.2 En = some (.inl (0, 2 * z.2.length, xints g2))) (h1 : ∀ i, i < z.1.2.2.length → g1 i = nI (csN (z.1.2.2.getD i (0, 0)))) (h2 : ∀ c q, z.2[c]? = some q → g2 (2 * c) = nI q.2.1 ∧ g2 (2 * c + 1) = nI q.2.2.2) : RuC m a (rlK z) := by
  refine ⟨S, En, g1, g2, ha.1, ha.2.1, ha.2.2.1, ha.2.2.2, m1, m2, m3, fun i hi => ⟨h1 i hi, hA.1 _ ?_⟩, hN, hL, ClC_of z.2 0 0 _ hA.2.2 hA.2.1 (fun i q hq => by rw [Nat.zero_add]; exact h2 i q hq)⟩
  show tsK z.1.2.2 i ∈ _
  unfold tsK
  rw [List.getD_eq_getElem?_getD, List.getElem?_eq_getElem hi]
  exact List.getElem_mem _
end X2
end NP2
