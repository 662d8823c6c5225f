/-! THE CLASS: what is made; image and back. -/
section CU
variable {m0 : xM} {F I : Nat → Nat → Int32} {L : Nat → Nat → Int64} {R : Nat → Nat → Option Nat} {H : Value} {s w : Nat → Int32} {o : Nat} {gg : Prop}
/-- the memory m with new cells f behind it, sl slots taken -/
def NM (m : xM) (sl : Nat) (f : List xC) : xM := (m.1 + f.length, m.2.1 + sl, fun k => if m.1 ≤ k ∧ k < m.1 + f.length then f[k - m.1]? else m.2.2 k)
section NM0
variable {m : xM} {sl : Nat} {f : List xC}
theorem NM_nil : NM m 0 [] = m := by
  refine Prod.ext rfl (Prod.ext rfl (funext fun k => ?_))
  show (if m.1 ≤ k ∧ k < m.1 + 0 then _ else m.2.2 k) = _
  rw [if_neg (by omega)]
theorem NM_at {i : Nat} (hi : i < f.length) : (NM m sl f).2.2 (m.1 + i) = f[i]? := by
  simp only [NM]
  rw [if_pos ⟨by omega, by omega⟩, Nat.add_sub_cancel_left]
theorem NM_new {s : Nat} {c : xC} : xnew (NM m sl f) s c = NM m (sl + s) (f ++ [c]) := by
  have hl : (f ++ [c]).length = f.length + 1 := by rw [List.length_append]; rfl
  refine Prod.ext ?_ (Prod.ext ?_ (funext fun k => ?_))
  · show m.1 + f.length + 1 = m.1 + (f ++ [c]).length
    rw [hl]
    rfl
  · show m.2.1 + sl + s = m.2.1 + (sl + s)
    omega
  · show va_up (NM m sl f).2.2 (m.1 + f.length) (some c) k = if m.1 ≤ k ∧ k < m.1 + (f ++ [c]).length then (f ++ [c])[k - m.1]? else m.2.2 k
    rw [hl]
    by_cases hk : k = m.1 + f.length
    · subst hk
      rw [if_pos ⟨by omega, by omega⟩, Nat.add_sub_cancel_left]
      simp only [va_up, if_true, List.getElem?_append_right (Nat.le_refl _), Nat.sub_self]
      rfl
    · rw [up_ne _ _ hk]
      simp only [NM]
      by_cases h : m.1 ≤ k ∧ k < m.1 + f.length
      · rw [if_pos h, if_pos ⟨h.1, by omega⟩, List.getElem?_append_left (by omega)]
      · rw [if_neg h, if_neg (by omega)]
theorem NM_set {i : Nat} {c : xC} (hi : i < f.length) : xset (NM m sl f) (m.1 + i) c = NM m sl (f.set i c) := by
  refine Prod.ext ?_ (Prod.ext rfl (funext fun k => ?_))
  · show m.1 + f.length = m.1 + (f.set i c).length
    rw [List.length_set]
  · show va_up (NM m sl f).2.2 (m.1 + i) (some c) k = if m.1 ≤ k ∧ k < m.1 + (f.set i c).length then (f.set i c)[k - m.1]? else m.2.2 k
    rw [List.length_set]
    by_cases hk : k = m.1 + i
    · subst hk
      rw [if_pos ⟨by omega, by omega⟩, Nat.add_sub_cancel_left, List.getElem?_set_self hi]
      simp only [va_up, if_true]
    · rw [up_ne _ _ hk]
      simp only [NM]
      by_cases h : m.1 ≤ k ∧ k < m.1 + f.length
      · rw [if_pos h, if_pos h, List.getElem?_set_ne (by omega)]
      · rw [if_neg h, if_neg h]
variable {d j pc len pc' : Nat} {ls st : List Value} {Q : Option Value → xM → Prop}
theorem Rn.nnew {ci n sl' : Nat} {f' : List xC} (hG : xG j pc = some (.new ci, len)) (hn : f.length = n) (hl : m.1 + n < xS) (hf : f ++ [.inr (ci, (xfty ci).map defaultValue)] = f') (hs : sl + (xfty ci).length = sl') (hp : pc + len = pc') (kk : Rn d j pc' ls (.ref (m.1 + n) :: st) (NM m sl' f') Q) : Rn d j pc ls st (NM m sl f) Q := by
  subst hp hn hf hs
  refine Rn.step (m' := _) hG (by simp only [xs, x_new]; rw [if_pos (show (NM m sl f).1 < xS from hl)]) ?_
  rw [NM_new]
  exact kk
theorem Rn.nnewa {n k sl' : Nat} {i : Int32} {f' : List xC} (hG : xG j pc = some (.newarray .int, len)) (hn : f.length = n) (hl : m.1 + n < xS) (hi : i = nI k) (hk : k ≤ 1000) (hf : f ++ [.inl (0, k, xints fun _ => 0)] = f') (hs : sl + k = sl') (hp : pc + len = pc') (kk : Rn d j pc' ls (.ref (m.1 + n) :: st) (NM m sl' f') Q) : Rn d j pc ls (.int i :: st) (NM m sl f) Q := by
  subst hp hn hf hs hi
  have hk1 : (nI k).toNatClampNeg = k := nI_clamp (by omega)
  refine Rn.step (m' := _) hG (by simp only [xs, x_newa, xak]; rw [if_pos (show (NM m sl f).1 < xS ∧ ¬ nI k < 0 ∧ (nI k).toNatClampNeg ≤ 100000 from ⟨hl, nI_pos (by omega), by omega⟩)]) ?_
  rw [hk1, NM_new]
  exact kk
theorem Rn.nput {q i : Nat} {v : Value} {fs : List Value} {ty : FieldType} {f' : List xC} (hG : xG j pc = some (.putfield q, len)) (hl : m.1 + i < xS) (hi : f[i]? = some (.inr (q / 64, fs))) (hty : (xfty (q / 64))[q % 64]? = some ty) (hn : narrow ty v = v ∧ fits ty v = true) (hb : Nat.blt (q % 64) fs.length = true) (hf : f.set i (.inr (q / 64, fs.set (q % 64) v)) = f') (hp : pc + len = pc') (kk : Rn d j pc' ls st (NM m sl f') Q) : Rn d j pc ls (v :: .ref (m.1 + i) :: st) (NM m sl f) Q := by
  subst hf
  have h1 : i < f.length := (List.getElem?_eq_some_iff.mp hi).1
  refine Rn.putf (ci := q / 64) (fs := fs) hG hl ((NM_at h1).trans hi) ⟨rfl, by rwa [Nat.blt_eq] at hb⟩ hty hn hp ?_
  rw [NM_set h1]
  exact kk
end NM0
theorem rcvA {m : xM} {b ci j : Nat} {fs as : List Value} (h : m.2.2 b = some (.inr (ci, fs))) (hj : (ci == xrc j) = true) : x_rcv xrc j m (.ref b :: as) = true := by
  unfold x_rcv
  simp only [h, hj]
set_option maxHeartbeats 4000000 in
theorem c_LaneI {d : Nat} {m : xM} (hd : 1 ≤ d) (hm : m.1 + 12 ≤ xS) : Cl d j_Lane_init [.ref (m.1 + 1)] (NM m 18 [.inr (1, [.null, .null, .null, .int 0, .int 0]), .inr (2, [.null, .null, .null, .null, .null, .null, .int 0, .int 0, .int 0, .int 0, .int 0, .int 0, .int 0])]) (Pv (NM m 92 [.inr (1, [.null, .null, .null, .int 0, .int 0]), .inr (2, [.ref (m.1 + 2), .ref (m.1 + 3), .ref (m.1 + 4), .ref (m.1 + 5), .ref (m.1 + 6), .ref (m.1 + 7), .int 0, .int 0, .int 0, .int 0, .int 0, .int 0, .int 0]), .inl (0, 10, xints fun _ => 0), .inl (0, 6, xints fun _ => 0), .inl (0, 6, xints fun _ => 0), .inl (0, 8, xints fun _ => 0), .inl (0, 40, xints fun _ => 0), .inl (0, 4, xints fun _ => 0)])) := by
  show Rn d j_Lane_init 0 _ _ _ _
  refine Rn.step (pc' := 1) rfl rfl ?_
  refine Rn.objInit (pc' := 4) rfl (by omega) ⟨Nat.zero_le 8, by omega⟩ rfl ?_
  refine Rn.step (pc' := 5) rfl rfl ?_
  refine Rn.iconst (v := 10) (pc' := 7) rfl (by decide) rfl ?_
  refine Rn.nnewa (n := 2) (k := 10) (sl' := 28) (f' := [.inr (1, [.null, .null, .null, .int 0, .int 0]), .inr (2, [.null, .null, .null, .null, .null, .null, .int 0, .int 0, .int 0, .int 0, .int 0, .int 0, .int 0]), .inl (0, 10, xints fun _ => 0)]) (pc' := 9) rfl rfl (by omega) rfl (by omega) rfl rfl rfl ?_
  refine Rn.nput (i := 1) (f' := [.inr (1, [.null, .null, .null, .int 0, .int 0]), .inr (2, [.ref (m.1 + 2), .null, .null, .null, .null, .null, .int 0, .int 0, .int 0, .int 0, .int 0, .int 0, .int 0]), .inl (0, 10, xints fun _ => 0)]) (pc' := 12) rfl (by omega) rfl rfl ⟨rfl, rfl⟩ rfl rfl rfl ?_
  refine Rn.step (pc' := 13) rfl rfl ?_
  refine Rn.iconst (v := 6) (pc' := 15) rfl (by decide) rfl ?_
  refine Rn.nnewa (n := 3) (k := 6) (sl' := 34) (f' := [.inr (1, [.null, .null, .null, .int 0, .int 0]), .inr (2, [.ref (m.1 + 2), .null, .null, .null, .null, .null, .int 0, .int 0, .int 0, .int 0, .int 0, .int 0, .int 0]), .inl (0, 10, xints fun _ => 0), .inl (0, 6, xints fun _ => 0)]) (pc' := 17) rfl rfl (by omega) rfl (by omega) rfl rfl rfl ?_
  refine Rn.nput (i := 1) (f' := [.inr (1, [.null, .null, .null, .int 0, .int 0]), .inr (2, [.ref (m.1 + 2), .ref (m.1 + 3), .null, .null, .null, .null, .int 0, .int 0, .int 0, .int 0, .int 0, .int 0, .int 0]), .inl (0, 10, xints fun _ => 0), .inl (0, 6, xints fun _ => 0)]) (pc' := 20) rfl (by omega) rfl rfl ⟨rfl, rfl⟩ rfl rfl rfl ?_
  refine Rn.step (pc' := 21) rfl rfl ?_
  refine Rn.iconst (v := 6) (pc' := 23) rfl (by decide) rfl ?_
  refine Rn.nnewa (n := 4) (k := 6) (sl' := 40) (f' := [.inr (1, [.null, .null, .null, .int 0, .int 0]), .inr (2, [.ref (m.1 + 2), .ref (m.1 + 3), .null, .null, .null, .null, .int 0, .int 0, .int 0, .int 0, .int 0, .int 0, .int 0]), .inl (0, 10, xints fun _ => 0), .inl (0, 6, xints fun _ => 0), .inl (0, 6, xints fun _ => 0)]) (pc' := 25) rfl rfl (by omega) rfl (by omega) rfl rfl rfl ?_
  refine Rn.nput (i := 1) (f' := [.inr (1, [.null, .null, .null, .int 0, .int 0]), .inr (2, [.ref (m.1 + 2), .ref (m.1 + 3), .ref (m.1 + 4), .null, .null, .null, .int 0, .int 0, .int 0, .int 0, .int 0, .int 0, .int 0]), .inl (0, 10, xints fun _ => 0), .inl (0, 6, xints fun _ => 0), .inl (0, 6, xints fun _ => 0)]) (pc' := 28) rfl (by omega) rfl rfl ⟨rfl, rfl⟩ rfl rfl rfl ?_
  refine Rn.step (pc' := 29) rfl rfl ?_
  refine Rn.iconst (v := 8) (pc' := 31) rfl (by decide) rfl ?_
  refine Rn.nnewa (n := 5) (k := 8) (sl' := 48) (f' := [.inr (1, [.null, .null, .null, .int 0, .int 0]), .inr (2, [.ref (m.1 + 2), .ref (m.1 + 3), .ref (m.1 + 4), .null, .null, .null, .int 0, .int 0, .int 0, .int 0, .int 0, .int 0, .int 0]), .inl (0, 10, xints fun _ => 0), .inl (0, 6, xints fun _ => 0), .inl (0, 6, xints fun _ => 0), .inl (0, 8, xints fun _ => 0)]) (pc' := 33) rfl rfl (by omega) rfl (by omega) rfl rfl rfl ?_
  refine Rn.nput (i := 1) (f' := [.inr (1, [.null, .null, .null, .int 0, .int 0]), .inr (2, [.ref (m.1 + 2), .ref (m.1 + 3), .ref (m.1 + 4), .ref (m.1 + 5), .null, .null, .int 0, .int 0, .int 0, .int 0, .int 0, .int 0, .int 0]), .inl (0, 10, xints fun _ => 0), .inl (0, 6, xints fun _ => 0), .inl (0, 6, xints fun _ => 0), .inl (0, 8, xints fun _ => 0)]) (pc' := 36) rfl (by omega) rfl rfl ⟨rfl, rfl⟩ rfl rfl rfl ?_
  refine Rn.step (pc' := 37) rfl rfl ?_
  refine Rn.iconst (v := 40) (pc' := 39) rfl (by decide) rfl ?_
  refine Rn.nnewa (n := 6) (k := 40) (sl' := 88) (f' := [.inr (1, [.null, .null, .null, .int 0, .int 0]), .inr (2, [.ref (m.1 + 2), .ref (m.1 + 3), .ref (m.1 + 4), .ref (m.1 + 5), .null, .null, .int 0, .int 0, .int 0, .int 0, .int 0, .int 0, .int 0]), .inl (0, 10, xints fun _ => 0), .inl (0, 6, xints fun _ => 0), .inl (0, 6, xints fun _ => 0), .inl (0, 8, xints fun _ => 0), .inl (0, 40, xints fun _ => 0)]) (pc' := 41) rfl rfl (by omega) rfl (by omega) rfl rfl rfl ?_
  refine Rn.nput (i := 1) (f' := [.inr (1, [.null, .null, .null, .int 0, .int 0]), .inr (2, [.ref (m.1 + 2), .ref (m.1 + 3), .ref (m.1 + 4), .ref (m.1 + 5), .ref (m.1 + 6), .null, .int 0, .int 0, .int 0, .int 0, .int 0, .int 0, .int 0]), .inl (0, 10, xints fun _ => 0), .inl (0, 6, xints fun _ => 0), .inl (0, 6, xints fun _ => 0), .inl (0, 8, xints fun _ => 0), .inl (0, 40, xints fun _ => 0)]) (pc' := 44) rfl (by omega) rfl rfl ⟨rfl, rfl⟩ rfl rfl rfl ?_
  refine Rn.step (pc' := 45) rfl rfl ?_
  refine Rn.iconst (v := 4) (pc' := 46) rfl (by decide) rfl ?_
  refine Rn.nnewa (n := 7) (k := 4) (sl' := 92) (f' := [.inr (1, [.null, .null, .null, .int 0, .int 0]), .inr (2, [.ref (m.1 + 2), .ref (m.1 + 3), .ref (m.1 + 4), .ref (m.1 + 5), .ref (m.1 + 6), .null, .int 0, .int 0, .int 0, .int 0, .int 0, .int 0, .int 0]), .inl (0, 10, xints fun _ => 0), .inl (0, 6, xints fun _ => 0), .inl (0, 6, xints fun _ => 0), .inl (0, 8, xints fun _ => 0), .inl (0, 40, xints fun _ => 0), .inl (0, 4, xints fun _ => 0)]) (pc' := 48) rfl rfl (by omega) rfl (by omega) rfl rfl rfl ?_
  refine Rn.nput (i := 1) (f' := [.inr (1, [.null, .null, .null, .int 0, .int 0]), .inr (2, [.ref (m.1 + 2), .ref (m.1 + 3), .ref (m.1 + 4), .ref (m.1 + 5), .ref (m.1 + 6), .ref (m.1 + 7), .int 0, .int 0, .int 0, .int 0, .int 0, .int 0, .int 0]), .inl (0, 10, xints fun _ => 0), .inl (0, 6, xints fun _ => 0), .inl (0, 6, xints fun _ => 0), .inl (0, 8, xints fun _ => 0), .inl (0, 40, xints fun _ => 0), .inl (0, 4, xints fun _ => 0)]) (pc' := 51) rfl (by omega) rfl rfl ⟨rfl, rfl⟩ rfl rfl rfl ?_
  refine Rn.step (pc' := 52) rfl rfl ?_
  refine Rn.iconst (v := 0) (pc' := 53) rfl (by decide) rfl ?_
  refine Rn.nput (i := 1) (f' := [.inr (1, [.null, .null, .null, .int 0, .int 0]), .inr (2, [.ref (m.1 + 2), .ref (m.1 + 3), .ref (m.1 + 4), .ref (m.1 + 5), .ref (m.1 + 6), .ref (m.1 + 7), .int 0, .int 0, .int 0, .int 0, .int 0, .int 0, .int 0]), .inl (0, 10, xints fun _ => 0), .inl (0, 6, xints fun _ => 0), .inl (0, 6, xints fun _ => 0), .inl (0, 8, xints fun _ => 0), .inl (0, 40, xints fun _ => 0), .inl (0, 4, xints fun _ => 0)]) (pc' := 56) rfl (by omega) rfl rfl ⟨rfl, rfl⟩ rfl rfl rfl ?_
  refine Rn.step (pc' := 57) rfl rfl ?_
  refine Rn.iconst (v := 0) (pc' := 58) rfl (by decide) rfl ?_
  refine Rn.nput (i := 1) (f' := [.inr (1, [.null, .null, .null, .int 0, .int 0]), .inr (2, [.ref (m.1 + 2), .ref (m.1 + 3), .ref (m.1 + 4), .ref (m.1 + 5), .ref (m.1 + 6), .ref (m.1 + 7), .int 0, .int 0, .int 0, .int 0, .int 0, .int 0, .int 0]), .inl (0, 10, xints fun _ => 0), .inl (0, 6, xints fun _ => 0), .inl (0, 6, xints fun _ => 0), .inl (0, 8, xints fun _ => 0), .inl (0, 40, xints fun _ => 0), .inl (0, 4, xints fun _ => 0)]) (pc' := 61) rfl (by omega) rfl rfl ⟨rfl, rfl⟩ rfl rfl rfl ?_
  refine Rn.step (pc' := 62) rfl rfl ?_
  refine Rn.iconst (v := 0) (pc' := 63) rfl (by decide) rfl ?_
  refine Rn.nput (i := 1) (f' := [.inr (1, [.null, .null, .null, .int 0, .int 0]), .inr (2, [.ref (m.1 + 2), .ref (m.1 + 3), .ref (m.1 + 4), .ref (m.1 + 5), .ref (m.1 + 6), .ref (m.1 + 7), .int 0, .int 0, .int 0, .int 0, .int 0, .int 0, .int 0]), .inl (0, 10, xints fun _ => 0), .inl (0, 6, xints fun _ => 0), .inl (0, 6, xints fun _ => 0), .inl (0, 8, xints fun _ => 0), .inl (0, 40, xints fun _ => 0), .inl (0, 4, xints fun _ => 0)]) (pc' := 66) rfl (by omega) rfl rfl ⟨rfl, rfl⟩ rfl rfl rfl ?_
  refine Rn.step (pc' := 67) rfl rfl ?_
  refine Rn.iconst (v := 0) (pc' := 68) rfl (by decide) rfl ?_
  refine Rn.nput (i := 1) (f' := [.inr (1, [.null, .null, .null, .int 0, .int 0]), .inr (2, [.ref (m.1 + 2), .ref (m.1 + 3), .ref (m.1 + 4), .ref (m.1 + 5), .ref (m.1 + 6), .ref (m.1 + 7), .int 0, .int 0, .int 0, .int 0, .int 0, .int 0, .int 0]), .inl (0, 10, xints fun _ => 0), .inl (0, 6, xints fun _ => 0), .inl (0, 6, xints fun _ => 0), .inl (0, 8, xints fun _ => 0), .inl (0, 40, xints fun _ => 0), .inl (0, 4, xints fun _ => 0)]) (pc' := 71) rfl (by omega) rfl rfl ⟨rfl, rfl⟩ rfl rfl rfl ?_
  refine Rn.step (pc' := 72) rfl rfl ?_
  refine Rn.iconst (v := 0) (pc' := 73) rfl (by decide) rfl ?_
  refine Rn.nput (i := 1) (f' := [.inr (1, [.null, .null, .null, .int 0, .int 0]), .inr (2, [.ref (m.1 + 2), .ref (m.1 + 3), .ref (m.1 + 4), .ref (m.1 + 5), .ref (m.1 + 6), .ref (m.1 + 7), .int 0, .int 0, .int 0, .int 0, .int 0, .int 0, .int 0]), .inl (0, 10, xints fun _ => 0), .inl (0, 6, xints fun _ => 0), .inl (0, 6, xints fun _ => 0), .inl (0, 8, xints fun _ => 0), .inl (0, 40, xints fun _ => 0), .inl (0, 4, xints fun _ => 0)]) (pc' := 76) rfl (by omega) rfl rfl ⟨rfl, rfl⟩ rfl rfl rfl ?_
  refine Rn.step (pc' := 77) rfl rfl ?_
  refine Rn.iconst (v := 0) (pc' := 78) rfl (by decide) rfl ?_
  refine Rn.nput (i := 1) (f' := [.inr (1, [.null, .null, .null, .int 0, .int 0]), .inr (2, [.ref (m.1 + 2), .ref (m.1 + 3), .ref (m.1 + 4), .ref (m.1 + 5), .ref (m.1 + 6), .ref (m.1 + 7), .int 0, .int 0, .int 0, .int 0, .int 0, .int 0, .int 0]), .inl (0, 10, xints fun _ => 0), .inl (0, 6, xints fun _ => 0), .inl (0, 6, xints fun _ => 0), .inl (0, 8, xints fun _ => 0), .inl (0, 40, xints fun _ => 0), .inl (0, 4, xints fun _ => 0)]) (pc' := 81) rfl (by omega) rfl rfl ⟨rfl, rfl⟩ rfl rfl rfl ?_
  refine Rn.step (pc' := 82) rfl rfl ?_
  refine Rn.iconst (v := 0) (pc' := 83) rfl (by decide) rfl ?_
  refine Rn.nput (i := 1) (f' := [.inr (1, [.null, .null, .null, .int 0, .int 0]), .inr (2, [.ref (m.1 + 2), .ref (m.1 + 3), .ref (m.1 + 4), .ref (m.1 + 5), .ref (m.1 + 6), .ref (m.1 + 7), .int 0, .int 0, .int 0, .int 0, .int 0, .int 0, .int 0]), .inl (0, 10, xints fun _ => 0), .inl (0, 6, xints fun _ => 0), .inl (0, 6, xints fun _ => 0), .inl (0, 8, xints fun _ => 0), .inl (0, 40, xints fun _ => 0), .inl (0, 4, xints fun _ => 0)]) (pc' := 86) rfl (by omega) rfl rfl ⟨rfl, rfl⟩ rfl rfl rfl ?_
  exact Rn.retv rfl rfl
set_option maxHeartbeats 4000000 in
theorem c_WorldI {d : Nat} {m : xM} (hd : 1 ≤ d) (hm : m.1 + 12 ≤ xS) : Cl d j_World_init [.ref (m.1 + 8)] (NM m 93 [.inr (1, [.ref (m.1 + 1), .null, .null, .int 0, .int 0]), .inr (2, [.ref (m.1 + 2), .ref (m.1 + 3), .ref (m.1 + 4), .ref (m.1 + 5), .ref (m.1 + 6), .ref (m.1 + 7), .int 0, .int 0, .int 0, .int 0, .int 0, .int 0, .int 0]), .inl (0, 10, xints fun _ => 0), .inl (0, 6, xints fun _ => 0), .inl (0, 6, xints fun _ => 0), .inl (0, 8, xints fun _ => 0), .inl (0, 40, xints fun _ => 0), .inl (0, 4, xints fun _ => 0), .inr (10, [.null])]) (Pv (NM m 126 [.inr (1, [.ref (m.1 + 1), .null, .null, .int 0, .int 0]), .inr (2, [.ref (m.1 + 2), .ref (m.1 + 3), .ref (m.1 + 4), .ref (m.1 + 5), .ref (m.1 + 6), .ref (m.1 + 7), .int 0, .int 0, .int 0, .int 0, .int 0, .int 0, .int 0]), .inl (0, 10, xints fun _ => 0), .inl (0, 6, xints fun _ => 0), .inl (0, 6, xints fun _ => 0), .inl (0, 8, xints fun _ => 0), .inl (0, 40, xints fun _ => 0), .inl (0, 4, xints fun _ => 0), .inr (10, [.ref (m.1 + 9)]), .inl (0, 33, xints fun _ => 0)])) := by
  show Rn d j_World_init 0 _ _ _ _
  refine Rn.step (pc' := 1) rfl rfl ?_
  refine Rn.objInit (pc' := 4) rfl (by omega) ⟨Nat.zero_le 8, by omega⟩ rfl ?_
  refine Rn.step (pc' := 5) rfl rfl ?_
  refine Rn.iconst (v := 33) (pc' := 7) rfl (by decide) rfl ?_
  refine Rn.nnewa (n := 9) (k := 33) (sl' := 126) (f' := [.inr (1, [.ref (m.1 + 1), .null, .null, .int 0, .int 0]), .inr (2, [.ref (m.1 + 2), .ref (m.1 + 3), .ref (m.1 + 4), .ref (m.1 + 5), .ref (m.1 + 6), .ref (m.1 + 7), .int 0, .int 0, .int 0, .int 0, .int 0, .int 0, .int 0]), .inl (0, 10, xints fun _ => 0), .inl (0, 6, xints fun _ => 0), .inl (0, 6, xints fun _ => 0), .inl (0, 8, xints fun _ => 0), .inl (0, 40, xints fun _ => 0), .inl (0, 4, xints fun _ => 0), .inr (10, [.null]), .inl (0, 33, xints fun _ => 0)]) (pc' := 9) rfl rfl (by omega) rfl (by omega) rfl rfl rfl ?_
  refine Rn.nput (i := 8) (f' := [.inr (1, [.ref (m.1 + 1), .null, .null, .int 0, .int 0]), .inr (2, [.ref (m.1 + 2), .ref (m.1 + 3), .ref (m.1 + 4), .ref (m.1 + 5), .ref (m.1 + 6), .ref (m.1 + 7), .int 0, .int 0, .int 0, .int 0, .int 0, .int 0, .int 0]), .inl (0, 10, xints fun _ => 0), .inl (0, 6, xints fun _ => 0), .inl (0, 6, xints fun _ => 0), .inl (0, 8, xints fun _ => 0), .inl (0, 40, xints fun _ => 0), .inl (0, 4, xints fun _ => 0), .inr (10, [.ref (m.1 + 9)]), .inl (0, 33, xints fun _ => 0)]) (pc' := 12) rfl (by omega) rfl rfl ⟨rfl, rfl⟩ rfl rfl rfl ?_
  exact Rn.retv rfl rfl
set_option maxHeartbeats 4000000 in
theorem c_PrintsI {d : Nat} {m : xM} (hd : 1 ≤ d) (hm : m.1 + 12 ≤ xS) : Cl d j_Prints_init [.ref (m.1 + 10)] (NM m 128 [.inr (1, [.ref (m.1 + 1), .ref (m.1 + 8), .null, .int 0, .int 0]), .inr (2, [.ref (m.1 + 2), .ref (m.1 + 3), .ref (m.1 + 4), .ref (m.1 + 5), .ref (m.1 + 6), .ref (m.1 + 7), .int 0, .int 0, .int 0, .int 0, .int 0, .int 0, .int 0]), .inl (0, 10, xints fun _ => 0), .inl (0, 6, xints fun _ => 0), .inl (0, 6, xints fun _ => 0), .inl (0, 8, xints fun _ => 0), .inl (0, 40, xints fun _ => 0), .inl (0, 4, xints fun _ => 0), .inr (10, [.ref (m.1 + 9)]), .inl (0, 33, xints fun _ => 0), .inr (4, [.null, .int 0])]) (Pv (NM m 168 [.inr (1, [.ref (m.1 + 1), .ref (m.1 + 8), .null, .int 0, .int 0]), .inr (2, [.ref (m.1 + 2), .ref (m.1 + 3), .ref (m.1 + 4), .ref (m.1 + 5), .ref (m.1 + 6), .ref (m.1 + 7), .int 0, .int 0, .int 0, .int 0, .int 0, .int 0, .int 0]), .inl (0, 10, xints fun _ => 0), .inl (0, 6, xints fun _ => 0), .inl (0, 6, xints fun _ => 0), .inl (0, 8, xints fun _ => 0), .inl (0, 40, xints fun _ => 0), .inl (0, 4, xints fun _ => 0), .inr (10, [.ref (m.1 + 9)]), .inl (0, 33, xints fun _ => 0), .inr (4, [.ref (m.1 + 11), .int 0]), .inl (0, 40, xints fun _ => 0)])) := by
  show Rn d j_Prints_init 0 _ _ _ _
  refine Rn.step (pc' := 1) rfl rfl ?_
  refine Rn.objInit (pc' := 4) rfl (by omega) ⟨Nat.zero_le 8, by omega⟩ rfl ?_
  refine Rn.step (pc' := 5) rfl rfl ?_
  refine Rn.iconst (v := 40) (pc' := 7) rfl (by decide) rfl ?_
  refine Rn.nnewa (n := 11) (k := 40) (sl' := 168) (f' := [.inr (1, [.ref (m.1 + 1), .ref (m.1 + 8), .null, .int 0, .int 0]), .inr (2, [.ref (m.1 + 2), .ref (m.1 + 3), .ref (m.1 + 4), .ref (m.1 + 5), .ref (m.1 + 6), .ref (m.1 + 7), .int 0, .int 0, .int 0, .int 0, .int 0, .int 0, .int 0]), .inl (0, 10, xints fun _ => 0), .inl (0, 6, xints fun _ => 0), .inl (0, 6, xints fun _ => 0), .inl (0, 8, xints fun _ => 0), .inl (0, 40, xints fun _ => 0), .inl (0, 4, xints fun _ => 0), .inr (10, [.ref (m.1 + 9)]), .inl (0, 33, xints fun _ => 0), .inr (4, [.null, .int 0]), .inl (0, 40, xints fun _ => 0)]) (pc' := 9) rfl rfl (by omega) rfl (by omega) rfl rfl rfl ?_
  refine Rn.nput (i := 10) (f' := [.inr (1, [.ref (m.1 + 1), .ref (m.1 + 8), .null, .int 0, .int 0]), .inr (2, [.ref (m.1 + 2), .ref (m.1 + 3), .ref (m.1 + 4), .ref (m.1 + 5), .ref (m.1 + 6), .ref (m.1 + 7), .int 0, .int 0, .int 0, .int 0, .int 0, .int 0, .int 0]), .inl (0, 10, xints fun _ => 0), .inl (0, 6, xints fun _ => 0), .inl (0, 6, xints fun _ => 0), .inl (0, 8, xints fun _ => 0), .inl (0, 40, xints fun _ => 0), .inl (0, 4, xints fun _ => 0), .inr (10, [.ref (m.1 + 9)]), .inl (0, 33, xints fun _ => 0), .inr (4, [.ref (m.1 + 11), .int 0]), .inl (0, 40, xints fun _ => 0)]) (pc' := 12) rfl (by omega) rfl rfl ⟨rfl, rfl⟩ rfl rfl rfl ?_
  refine Rn.step (pc' := 13) rfl rfl ?_
  refine Rn.iconst (v := 0) (pc' := 14) rfl (by decide) rfl ?_
  refine Rn.nput (i := 10) (f' := [.inr (1, [.ref (m.1 + 1), .ref (m.1 + 8), .null, .int 0, .int 0]), .inr (2, [.ref (m.1 + 2), .ref (m.1 + 3), .ref (m.1 + 4), .ref (m.1 + 5), .ref (m.1 + 6), .ref (m.1 + 7), .int 0, .int 0, .int 0, .int 0, .int 0, .int 0, .int 0]), .inl (0, 10, xints fun _ => 0), .inl (0, 6, xints fun _ => 0), .inl (0, 6, xints fun _ => 0), .inl (0, 8, xints fun _ => 0), .inl (0, 40, xints fun _ => 0), .inl (0, 4, xints fun _ => 0), .inr (10, [.ref (m.1 + 9)]), .inl (0, 33, xints fun _ => 0), .inr (4, [.ref (m.1 + 11), .int 0]), .inl (0, 40, xints fun _ => 0)]) (pc' := 17) rfl (by omega) rfl rfl ⟨rfl, rfl⟩ rfl rfl rfl ?_
  exact Rn.retv rfl rfl
set_option maxHeartbeats 4000000 in
theorem c_ImageI {d : Nat} {m : xM} (hd : 2 ≤ d) (hm : m.1 + 12 ≤ xS) : Cl d j_Image_init [.ref (m.1 + 0)] (NM m 5 [.inr (1, [.null, .null, .null, .int 0, .int 0])]) (Pv (NM m 168 [.inr (1, [.ref (m.1 + 1), .ref (m.1 + 8), .ref (m.1 + 10), .int (-1), .int 0]), .inr (2, [.ref (m.1 + 2), .ref (m.1 + 3), .ref (m.1 + 4), .ref (m.1 + 5), .ref (m.1 + 6), .ref (m.1 + 7), .int 0, .int 0, .int 0, .int 0, .int 0, .int 0, .int 0]), .inl (0, 10, xints fun _ => 0), .inl (0, 6, xints fun _ => 0), .inl (0, 6, xints fun _ => 0), .inl (0, 8, xints fun _ => 0), .inl (0, 40, xints fun _ => 0), .inl (0, 4, xints fun _ => 0), .inr (10, [.ref (m.1 + 9)]), .inl (0, 33, xints fun _ => 0), .inr (4, [.ref (m.1 + 11), .int 0]), .inl (0, 40, xints fun _ => 0)])) := by
  show Rn d j_Image_init 0 _ _ _ _
  refine Rn.step (pc' := 1) rfl rfl ?_
  refine Rn.objInit (pc' := 4) rfl (by omega) ⟨Nat.zero_le 8, by omega⟩ rfl ?_
  refine Rn.step (pc' := 5) rfl rfl ?_
  refine Rn.nnew (n := 1) (sl' := 18) (f' := [.inr (1, [.null, .null, .null, .int 0, .int 0]), .inr (2, [.null, .null, .null, .null, .null, .null, .int 0, .int 0, .int 0, .int 0, .int 0, .int 0, .int 0])]) (pc' := 8) rfl rfl (by omega) rfl rfl rfl ?_
  refine Rn.step (pc' := 9) rfl rfl ?_
  refine Rn.callI (pc' := 12) rfl (by decide) (by omega) rfl (decide_eq_true (show m.1 + 1 < xS by omega)) rfl (c_LaneI (by omega) hm) (fun r_ m_ hc_ => ?_)
  obtain ⟨rfl, rfl⟩ := hc_
  refine Rn.nput (i := 0) (f' := [.inr (1, [.ref (m.1 + 1), .null, .null, .int 0, .int 0]), .inr (2, [.ref (m.1 + 2), .ref (m.1 + 3), .ref (m.1 + 4), .ref (m.1 + 5), .ref (m.1 + 6), .ref (m.1 + 7), .int 0, .int 0, .int 0, .int 0, .int 0, .int 0, .int 0]), .inl (0, 10, xints fun _ => 0), .inl (0, 6, xints fun _ => 0), .inl (0, 6, xints fun _ => 0), .inl (0, 8, xints fun _ => 0), .inl (0, 40, xints fun _ => 0), .inl (0, 4, xints fun _ => 0)]) (pc' := 15) rfl (by omega) rfl rfl ⟨rfl, rfl⟩ rfl rfl rfl ?_
  refine Rn.step (pc' := 16) rfl rfl ?_
  refine Rn.nnew (n := 8) (sl' := 93) (f' := [.inr (1, [.ref (m.1 + 1), .null, .null, .int 0, .int 0]), .inr (2, [.ref (m.1 + 2), .ref (m.1 + 3), .ref (m.1 + 4), .ref (m.1 + 5), .ref (m.1 + 6), .ref (m.1 + 7), .int 0, .int 0, .int 0, .int 0, .int 0, .int 0, .int 0]), .inl (0, 10, xints fun _ => 0), .inl (0, 6, xints fun _ => 0), .inl (0, 6, xints fun _ => 0), .inl (0, 8, xints fun _ => 0), .inl (0, 40, xints fun _ => 0), .inl (0, 4, xints fun _ => 0), .inr (10, [.null])]) (pc' := 19) rfl rfl (by omega) rfl rfl rfl ?_
  refine Rn.step (pc' := 20) rfl rfl ?_
  refine Rn.callI (pc' := 23) rfl (by decide) (by omega) rfl (decide_eq_true (show m.1 + 8 < xS by omega)) rfl (c_WorldI (by omega) hm) (fun r_ m_ hc_ => ?_)
  obtain ⟨rfl, rfl⟩ := hc_
  refine Rn.nput (i := 0) (f' := [.inr (1, [.ref (m.1 + 1), .ref (m.1 + 8), .null, .int 0, .int 0]), .inr (2, [.ref (m.1 + 2), .ref (m.1 + 3), .ref (m.1 + 4), .ref (m.1 + 5), .ref (m.1 + 6), .ref (m.1 + 7), .int 0, .int 0, .int 0, .int 0, .int 0, .int 0, .int 0]), .inl (0, 10, xints fun _ => 0), .inl (0, 6, xints fun _ => 0), .inl (0, 6, xints fun _ => 0), .inl (0, 8, xints fun _ => 0), .inl (0, 40, xints fun _ => 0), .inl (0, 4, xints fun _ => 0), .inr (10, [.ref (m.1 + 9)]), .inl (0, 33, xints fun _ => 0)]) (pc' := 26) rfl (by omega) rfl rfl ⟨rfl, rfl⟩ rfl rfl rfl ?_
  refine Rn.step (pc' := 27) rfl rfl ?_
  refine Rn.nnew (n := 10) (sl' := 128) (f' := [.inr (1, [.ref (m.1 + 1), .ref (m.1 + 8), .null, .int 0, .int 0]), .inr (2, [.ref (m.1 + 2), .ref (m.1 + 3), .ref (m.1 + 4), .ref (m.1 + 5), .ref (m.1 + 6), .ref (m.1 + 7), .int 0, .int 0, .int 0, .int 0, .int 0, .int 0, .int 0]), .inl (0, 10, xints fun _ => 0), .inl (0, 6, xints fun _ => 0), .inl (0, 6, xints fun _ => 0), .inl (0, 8, xints fun _ => 0), .inl (0, 40, xints fun _ => 0), .inl (0, 4, xints fun _ => 0), .inr (10, [.ref (m.1 + 9)]), .inl (0, 33, xints fun _ => 0), .inr (4, [.null, .int 0])]) (pc' := 30) rfl rfl (by omega) rfl rfl rfl ?_
  refine Rn.step (pc' := 31) rfl rfl ?_
  refine Rn.callI (pc' := 34) rfl (by decide) (by omega) rfl (decide_eq_true (show m.1 + 10 < xS by omega)) rfl (c_PrintsI (by omega) hm) (fun r_ m_ hc_ => ?_)
  obtain ⟨rfl, rfl⟩ := hc_
  refine Rn.nput (i := 0) (f' := [.inr (1, [.ref (m.1 + 1), .ref (m.1 + 8), .ref (m.1 + 10), .int 0, .int 0]), .inr (2, [.ref (m.1 + 2), .ref (m.1 + 3), .ref (m.1 + 4), .ref (m.1 + 5), .ref (m.1 + 6), .ref (m.1 + 7), .int 0, .int 0, .int 0, .int 0, .int 0, .int 0, .int 0]), .inl (0, 10, xints fun _ => 0), .inl (0, 6, xints fun _ => 0), .inl (0, 6, xints fun _ => 0), .inl (0, 8, xints fun _ => 0), .inl (0, 40, xints fun _ => 0), .inl (0, 4, xints fun _ => 0), .inr (10, [.ref (m.1 + 9)]), .inl (0, 33, xints fun _ => 0), .inr (4, [.ref (m.1 + 11), .int 0]), .inl (0, 40, xints fun _ => 0)]) (pc' := 37) rfl (by omega) rfl rfl ⟨rfl, rfl⟩ rfl rfl rfl ?_
  refine Rn.step (pc' := 38) rfl rfl ?_
  refine Rn.iconst (v := (-1)) (pc' := 39) rfl (by decide) rfl ?_
  refine Rn.nput (i := 0) (f' := [.inr (1, [.ref (m.1 + 1), .ref (m.1 + 8), .ref (m.1 + 10), .int (-1), .int 0]), .inr (2, [.ref (m.1 + 2), .ref (m.1 + 3), .ref (m.1 + 4), .ref (m.1 + 5), .ref (m.1 + 6), .ref (m.1 + 7), .int 0, .int 0, .int 0, .int 0, .int 0, .int 0, .int 0]), .inl (0, 10, xints fun _ => 0), .inl (0, 6, xints fun _ => 0), .inl (0, 6, xints fun _ => 0), .inl (0, 8, xints fun _ => 0), .inl (0, 40, xints fun _ => 0), .inl (0, 4, xints fun _ => 0), .inr (10, [.ref (m.1 + 9)]), .inl (0, 33, xints fun _ => 0), .inr (4, [.ref (m.1 + 11), .int 0]), .inl (0, 40, xints fun _ => 0)]) (pc' := 42) rfl (by omega) rfl rfl ⟨rfl, rfl⟩ rfl rfl rfl ?_
  refine Rn.step (pc' := 43) rfl rfl ?_
  refine Rn.iconst (v := 0) (pc' := 44) rfl (by decide) rfl ?_
  refine Rn.nput (i := 0) (f' := [.inr (1, [.ref (m.1 + 1), .ref (m.1 + 8), .ref (m.1 + 10), .int (-1), .int 0]), .inr (2, [.ref (m.1 + 2), .ref (m.1 + 3), .ref (m.1 + 4), .ref (m.1 + 5), .ref (m.1 + 6), .ref (m.1 + 7), .int 0, .int 0, .int 0, .int 0, .int 0, .int 0, .int 0]), .inl (0, 10, xints fun _ => 0), .inl (0, 6, xints fun _ => 0), .inl (0, 6, xints fun _ => 0), .inl (0, 8, xints fun _ => 0), .inl (0, 40, xints fun _ => 0), .inl (0, 4, xints fun _ => 0), .inr (10, [.ref (m.1 + 9)]), .inl (0, 33, xints fun _ => 0), .inr (4, [.ref (m.1 + 11), .int 0]), .inl (0, 40, xints fun _ => 0)]) (pc' := 47) rfl (by omega) rfl rfl ⟨rfl, rfl⟩ rfl rfl rfl ?_
  exact Rn.retv rfl rfl
def imG : Nat → Nat → Int32 := fun i => if i = 0 then (fun j => if j = 3 then -1 else 0) else fun _ => 0
theorem NM_IC (h5 : 50 ≤ m0.1) : NM (CC m0 F I L R H) 168 [.inr (1, [.ref ((CC m0 F I L R H).1 + 1), .ref ((CC m0 F I L R H).1 + 8), .ref ((CC m0 F I L R H).1 + 10), .int (-1), .int 0]), .inr (2, [.ref ((CC m0 F I L R H).1 + 2), .ref ((CC m0 F I L R H).1 + 3), .ref ((CC m0 F I L R H).1 + 4), .ref ((CC m0 F I L R H).1 + 5), .ref ((CC m0 F I L R H).1 + 6), .ref ((CC m0 F I L R H).1 + 7), .int 0, .int 0, .int 0, .int 0, .int 0, .int 0, .int 0]), .inl (0, 10, xints fun _ => 0), .inl (0, 6, xints fun _ => 0), .inl (0, 6, xints fun _ => 0), .inl (0, 8, xints fun _ => 0), .inl (0, 40, xints fun _ => 0), .inl (0, 4, xints fun _ => 0), .inr (10, [.ref ((CC m0 F I L R H).1 + 9)]), .inl (0, 33, xints fun _ => 0), .inr (4, [.ref ((CC m0 F I L R H).1 + 11), .int 0]), .inl (0, 40, xints fun _ => 0)] = CC (IC (m0.1 + 12, m0.2.1 + 168, m0.2.2) m0.1 imG) F I L R H := by
  refine Prod.ext rfl (Prod.ext rfl (funext fun k => ?_))
  show (if m0.1 ≤ k ∧ k < m0.1 + 12 then ([.inr (1, [.ref (m0.1 + 1), .ref (m0.1 + 8), .ref (m0.1 + 10), .int (-1), .int 0]), .inr (2, [.ref (m0.1 + 2), .ref (m0.1 + 3), .ref (m0.1 + 4), .ref (m0.1 + 5), .ref (m0.1 + 6), .ref (m0.1 + 7), .int 0, .int 0, .int 0, .int 0, .int 0, .int 0, .int 0]), .inl (0, 10, xints fun _ => 0), .inl (0, 6, xints fun _ => 0), .inl (0, 6, xints fun _ => 0), .inl (0, 8, xints fun _ => 0), .inl (0, 40, xints fun _ => 0), .inl (0, 4, xints fun _ => 0), .inr (10, [.ref (m0.1 + 9)]), .inl (0, 33, xints fun _ => 0), .inr (4, [.ref (m0.1 + 11), .int 0]), .inl (0, 40, xints fun _ => 0)] : List xC)[k - m0.1]? else if k < 50 then ccell F I L R H k else m0.2.2 k) = if k < 50 then ccell F I L R H k else if m0.1 ≤ k ∧ k < m0.1 + 12 then icell m0.1 (imG (k - m0.1)) (k - m0.1) else m0.2.2 k
  by_cases h : m0.1 ≤ k ∧ k < m0.1 + 12
  · rw [if_pos h, if_neg (show ¬ k < 50 by omega), if_pos h]
    obtain ⟨i, rfl⟩ : ∃ i, k = m0.1 + i := ⟨k - m0.1, by omega⟩
    rw [Nat.add_sub_cancel_left]
    have hi : i < 12 := by omega
    match i, hi with
    | 0, _ => rfl
    | 1, _ => rfl
    | 2, _ => rfl
    | 3, _ => rfl
    | 4, _ => rfl
    | 5, _ => rfl
    | 6, _ => rfl
    | 7, _ => rfl
    | 8, _ => rfl
    | 9, _ => rfl
    | 10, _ => rfl
    | 11, _ => rfl
    | i + 12, hi => exact absurd hi (by omega)
  · rw [if_neg h, if_neg h]
/-- an image lies at the cells from a on -/
def isImg (m0 : xM) (a : Nat) (G : Nat → Nat → Int32) : Prop := ∀ i, i < 12 → m0.2.2 (a + i) = icell a (G i) i
theorem IC_self {a : Nat} {G : Nat → Nat → Int32} (h : isImg m0 a G) : IC m0 a G = m0 := by
  refine Prod.ext rfl (Prod.ext rfl (funext fun k => ?_))
  show (if a ≤ k ∧ k < a + 12 then icell a (G (k - a)) (k - a) else m0.2.2 k) = m0.2.2 k
  by_cases hk : a ≤ k ∧ k < a + 12
  · rw [if_pos hk, ← h (k - a) (by omega), show a + (k - a) = k by omega]
  · rw [if_neg hk]
theorem IC_img {a : Nat} {G : Nat → Nat → Int32} : isImg (IC m0 a G) a G := fun i hi => by
  simp only [IC]
  rw [if_pos ⟨by omega, by omega⟩, Nat.add_sub_cancel_left]
theorem isImg.keep {a b : Nat} {G K : Nat → Nat → Int32} (h : isImg m0 b K) (hd : a + 12 ≤ b ∨ b + 12 ≤ a) : isImg (IC m0 a G) b K := fun i hi => by
  rw [IC_out (by omega)]
  exact h i hi
/-- the image says what the class holds now -/
abbrev IMG (F I G : Nat → Nat → Int32) : Prop := ((∀ j, j < 10 → G 2 j = I 18 j) ∧ (∀ j, j < 6 → G 3 j = I 19 j) ∧ (∀ j, j < 6 → G 4 j = I 20 j) ∧ (∀ j, j < 8 → G 5 j = I 21 j) ∧ (∀ j, j < 40 → G 6 j = I 22 j)) ∧ (G 1 6 = F 17 6 ∧ G 1 7 = F 17 7 ∧ G 1 8 = F 17 8 ∧ G 1 9 = F 17 9 ∧ G 1 10 = F 17 10 ∧ G 1 11 = F 17 11 ∧ G 1 12 = F 17 12) ∧ (∀ j, j < 33 → G 9 j = I 9 j) ∧ (∀ j, j < 40 → G 11 j = I 13 j) ∧ G 10 1 = F 12 1 ∧ G 0 3 = F 0 13 ∧ G 0 4 = F 0 14
section IM1
variable {d j pc len pc' : Nat} {ls st : List Value} {Q : Option Value → xM → Prop}
theorem Rn.ald7 {k : Nat} {i : Int32} (hG : xG j pc = some (.aaload, len)) (hi : i = nI k) (hk : k < 4) (hp : pc + len = pc') (kn : R 7 k = none → Rn d j pc' ls (.null :: st) (CC m0 F I L R H) Q) (ks : ∀ v, R 7 k = some v → v < xS ∧ Rn d j pc' ls (.ref v :: st) (CC m0 F I L R H) Q) : Rn d j pc ls (.int i :: .ref 7 :: st) (CC m0 F I L R H) Q := by
  cases e : R 7 k with
  | some v => exact Rn.caald (a := 7) (k := k) hG rfl (by omega) hi hk (by omega) e (ks v e).1 hp (ks v e).2
  | none =>
    subst hi hp
    have hx : ¬ xout (nI k) 4 = true := by
      have := vp_in_nI hk (by omega)
      simpa [xout, vp_in] using this
    have hc : ¬ (5 < 4 ∨ 7 ≤ 5 ∨ xS ≤ 7 ∨ xout (nI k) 4 = true) := fun z => z.elim (fun y => by omega) (fun z => z.elim (fun y => by omega) (fun z => z.elim (fun y => by unfold xS at y; omega) hx))
    have e2 : c30 R 7 k = none := e
    refine Rn.step hG (by simp only [xs, x_aald, CC_R (a := 7) (q := (5, 4)) rfl, if_neg hc, nI_clamp (show k < 2 ^ 31 by omega), e2]) (kn e)
theorem Rn.ast7 {k v : Nat} {i : Int32} {fs : List Value} (hG : xG j pc = some (.aastore, len)) (hi : i = nI k) (hk : k < 4) (hv : v < xS) (hv2 : (CC m0 F I L R H).2.2 v = some (.inr (1, fs))) (hp : pc + len = pc') (kk : Rn d j pc' ls st (CC m0 F I L (va_up R 7 (va_up (R 7) k (some v))) H) Q) : Rn d j pc ls (.ref v :: .int i :: .ref 7 :: st) (CC m0 F I L R H) Q := by
  subst hi hp
  have hx : ¬ xout (nI k) 4 = true := by
    have := vp_in_nI hk (by omega)
    simpa [xout, vp_in] using this
  have hc : ¬ (5 < 4 ∨ 7 ≤ 5 ∨ xout (nI k) 4 = true) := fun z => z.elim (fun y => by omega) (fun z => z.elim (fun y => by omega) hx)
  have hl : 7 < xS ∧ v < xS := ⟨by decide, hv⟩
  have ha : 1 = xacl 5 := rfl
  refine Rn.step (m' := _) hG (by simp only [xs, x_aast, if_pos hl, CC_R (a := 7) (q := (5, 4)) rfl, if_neg hc, hv2, if_pos ha]; rfl) ?_
  rw [nI_clamp (by omega)]
  have := CC_setR (m0 := m0) (F := F) (I := I) (L := L) (R := R) (H := H) (a := 7) (q := (5, 4)) rfl (by decide) (va_up (R 7) k (some v))
  exact Rn.mm this kk
end IM1
set_option maxHeartbeats 4000000 in
theorem w_O_image37 {d a : Nat} {G : Nat → Nat → Int32} {x : Int32} {Q : Option Value → xM → Prop} (hd : 2 ≤ d) (h5 : 50 ≤ a ∧ a + 12 ≤ xS) (kk : ∀ G1, IMG F I G1 → Q (some (.int (I 9 31))) (CC (IC m0 a G1) F I L R H)) : Rn d j_O_image 37 [.ref 0, .int x, .ref a] [] (CC (IC m0 a G) F I L R H) Q := by
  refine Rn.step (pc' := 38) rfl rfl ?_
  refine Rn.getf (pc' := 41) rfl (IC_o0 h5.1) rfl rfl rfl ?_
  refine Rn.step (pc' := 42) rfl rfl ?_
  refine Rn.getf (pc' := 45) rfl rfl rfl rfl rfl ?_
  refine Rn.callV (pc' := 48) rfl (by decide) (by omega) rfl (rcvA (IC_o1 h5.1) rfl) rfl (c_L_cpI (by omega) h5) (fun r_ m_ hc_ => ?_)
  obtain ⟨rfl, G1, rfl, hG1, hrw, hfl⟩ := hc_
  refine Rn.step (pc' := 49) rfl rfl ?_
  refine Rn.getf (pc' := 52) rfl (IC_o0 h5.1) rfl rfl rfl ?_
  refine Rn.step (pc' := 53) rfl rfl ?_
  refine Rn.getf (pc' := 56) rfl rfl rfl rfl rfl ?_
  refine Rn.vv (pc' := 59) rfl (by decide) (by omega) rfl (rcvA (IC_o8 h5.1) rfl) rfl (c_W_cpI (by omega) h5) ?_
  refine Rn.step (pc' := 60) rfl rfl ?_
  refine Rn.getf (pc' := 63) rfl (IC_o0 h5.1) rfl rfl rfl ?_
  refine Rn.step (pc' := 64) rfl rfl ?_
  refine Rn.getf (pc' := 67) rfl rfl rfl rfl rfl ?_
  refine Rn.vv (pc' := 70) rfl (by decide) (by omega) rfl (rcvA (IC_o10 h5.1) rfl) rfl (c_P_cpI (by omega) h5) ?_
  refine Rn.step (pc' := 71) rfl rfl ?_
  refine Rn.step (pc' := 72) rfl rfl ?_
  refine Rn.getf (pc' := 75) rfl rfl rfl rfl rfl ?_
  refine Rn.iput (a := a) (i := 0) (pc' := 78) rfl h5 (by omega) rfl rfl rfl rfl rfl ?_
  refine Rn.step (pc' := 79) rfl rfl ?_
  refine Rn.step (pc' := 80) rfl rfl ?_
  refine Rn.getf (pc' := 83) rfl rfl rfl rfl rfl ?_
  refine Rn.iput (a := a) (i := 0) (pc' := 86) rfl h5 (by omega) rfl rfl rfl rfl rfl ?_
  refine Rn.step (pc' := 87) rfl rfl ?_
  refine Rn.getf (pc' := 90) rfl rfl rfl rfl rfl ?_
  refine Rn.getf (pc' := 93) rfl rfl rfl rfl rfl ?_
  refine Rn.iconst (v := 31) (pc' := 95) rfl (by decide) rfl ?_
  refine Rn.cald (k := 31) (pc' := 96) rfl rfl rfl (by omega) rfl (by decide) rfl ?_
  exact Rn.iret rfl (rfl) (kk _ ⟨hrw, hfl, fun j hj => cpy0 hj, fun j hj => cpy0 hj, rfl, rfl, rfl⟩)
theorem le3 {x : Int32} (h : x < 4) : x ≤ 3 := by
  rw [Int32.lt_iff_toInt_lt] at h
  rw [Int32.le_iff_toInt_le]
  have a : (4 : Int32).toInt = 4 := by decide
  have b : (3 : Int32).toInt = 3 := by decide
  omega
theorem lt4 {x : Int32} (h : x ≤ 3) : x < 4 := by
  rw [Int32.le_iff_toInt_le] at h
  rw [Int32.lt_iff_toInt_lt]
  have a : (4 : Int32).toInt = 4 := by decide
  have b : (3 : Int32).toInt = 3 := by decide
  omega
set_option maxHeartbeats 4000000 in
theorem c_O_image {d : Nat} {Gs : Nat → Nat → Nat → Int32} (hd : 3 ≤ d) (h50 : 50 ≤ m0.1) (h12 : m0.1 + 12 ≤ xS) (him : ∀ k a, k < 4 → R 7 k = some a → 50 ≤ a ∧ a + 12 ≤ xS ∧ isImg m0 a (Gs k)) (x : Int32) : Cl d j_O_image [.ref 0, .int x] (CC m0 F I L R H) (fun r m2 => (gIm x → r = some (.int (-1)) ∧ m2 = (CC m0 F I L R H)) ∧ (¬ gIm x → r = some (.int (I 9 31)) ∧ ((∃ a G1, R 7 x.toNatClampNeg = some a ∧ IMG F I G1 ∧ m2 = CC (IC m0 a G1) F I L R H) ∨ (R 7 x.toNatClampNeg = none ∧ ∃ G1, IMG F I G1 ∧ m2 = CC (IC (m0.1 + 12, m0.2.1 + 168, m0.2.2) m0.1 G1) F I L (va_up R 7 (va_up (R 7) x.toNatClampNeg (some m0.1))) H)))) := by
  show Rn d j_O_image 0 _ _ _ _
  refine Rn.step (pc' := 1) rfl rfl ?_
  refine Rn.ifc_lt (pc1 := 9) (pc2 := 4) rfl rfl rfl (fun h1 => ?_) (fun h1 => ?_)
  · refine Rn.iconst (v := (-1)) (pc' := 10) rfl (by decide) rfl ?_
    exact Rn.iret rfl (rfl) (⟨fun _ => ⟨rfl, rfl⟩, fun hg => absurd (fun z => absurd h1 (Int32.not_lt.mpr z.1)) hg⟩)
  · refine Rn.step (pc' := 5) rfl rfl ?_
    refine Rn.iconst (v := 4) (pc' := 6) rfl (by decide) rfl ?_
    refine Rn.icmp_lt (pc1 := 11) (pc2 := 9) rfl rfl rfl (fun h6 => ?_) (fun h6 => ?_)
    · have h03 : 0 ≤ x ∧ x ≤ 3 := ⟨Int32.not_lt.mp h1, le3 h6⟩
      obtain ⟨N, hN, rfl⟩ := xN (n := 3) (by decide) (by decide) h03
      have eN : (nI N).toNatClampNeg = N := nI_clamp (by omega)
      refine Rn.step (pc' := 12) rfl rfl ?_
      refine Rn.getf (pc' := 15) rfl rfl rfl rfl rfl ?_
      refine Rn.step (pc' := 16) rfl rfl ?_
      refine Rn.ald7 (k := N) (pc' := 17) rfl rfl (by omega) rfl (fun e7 => ?_) (fun v e7 => ⟨by have := him N v (by omega) e7; omega, ?_⟩)
      · refine Rn.step (pc' := 18) rfl rfl ?_
        refine Rn.step (pc' := 19) rfl rfl ?_
        refine Rn.ifnonnull_null (pc' := 22) rfl rfl ?_
        refine Rn.mm NM_nil.symm ?_
        refine Rn.nnew (n := 0) (sl' := 5) (f' := [.inr (1, [.null, .null, .null, .int 0, .int 0])]) (pc' := 25) rfl rfl (show m0.1 + 0 < xS by omega) rfl rfl rfl ?_
        refine Rn.step (pc' := 26) rfl rfl ?_
        refine Rn.callI (pc' := 29) rfl (by decide) (by omega) rfl (decide_eq_true (show m0.1 + 0 < xS by omega)) rfl (c_ImageI (m := (CC m0 F I L R H)) (by omega) (show m0.1 + 12 ≤ xS by omega)) (fun r_ m_ hc_ => ?_)
        obtain ⟨rfl, rfl⟩ := hc_
        refine Rn.mm (NM_IC h50) ?_
        refine Rn.step (pc' := 30) rfl rfl ?_
        refine Rn.step (pc' := 31) rfl rfl ?_
        refine Rn.getf (pc' := 34) rfl rfl rfl rfl rfl ?_
        refine Rn.step (pc' := 35) rfl rfl ?_
        refine Rn.step (pc' := 36) rfl rfl ?_
        refine Rn.ast7 (k := N) (v := m0.1) (pc' := 37) rfl rfl (by omega) (by omega) (IC_o0 h50) rfl ?_
        exact w_O_image37 (a := m0.1) (by omega) ⟨h50, by omega⟩ (fun G1 hI => ⟨fun hg => absurd h03 hg, fun _ => ⟨rfl, Or.inr ⟨by rw [eN]; exact e7, G1, hI, by rw [eN]⟩⟩⟩)
      · have hv := him N v (by omega) e7
        refine Rn.step (pc' := 18) rfl rfl ?_
        refine Rn.step (pc' := 19) rfl rfl ?_
        refine Rn.ifnonnull_ref (pc' := 37) rfl (by omega) rfl ?_
        refine Rn.mm (congrArg (fun z => CC z F I L R H) (IC_self hv.2.2).symm) ?_
        exact w_O_image37 (a := v) (by omega) ⟨hv.1, hv.2.1⟩ (fun G1 hI => ⟨fun hg => absurd h03 hg, fun _ => ⟨rfl, Or.inl ⟨v, G1, by rw [eN]; exact e7, hI, rfl⟩⟩⟩)
    · refine Rn.iconst (v := (-1)) (pc' := 10) rfl (by decide) rfl ?_
      exact Rn.iret rfl (rfl) (⟨fun _ => ⟨rfl, rfl⟩, fun hg => absurd (fun z => h6 (lt4 z.2)) hg⟩)
set_option maxHeartbeats 4000000 in
theorem w_O_back24 {d a : Nat} {G : Nat → Nat → Int32} {x : Int32} (hd : 2 ≤ d) (h5 : 50 ≤ a ∧ a + 12 ≤ xS) : Rn d j_O_back 24 [.ref 0, .int x, .ref a] [] (CC (IC m0 a G) F I L R H) (fun r m2 => r = some (.int (G 9 31)) ∧ ∃ F1 I1, m2 = CC (IC m0 a G) F1 I1 L R H ∧ (∀ k, k ≠ 0 → k ≠ 10 → k ≠ 12 → k ≠ 17 → F1 k = F k) ∧ F1 0 = upd (upd (F 0) 13 (G 0 3)) 14 (G 0 4) ∧ F1 10 = upd (F 10) 2 0 ∧ (∀ k, k ≠ 9 → k ≠ 13 → (k < 18 ∨ 22 < k) → I1 k = I k) ∧ IMG F1 I1 (G)) := by
  refine Rn.step (pc' := 25) rfl rfl ?_
  refine Rn.getf (pc' := 28) rfl rfl rfl rfl rfl ?_
  refine Rn.step (pc' := 29) rfl rfl ?_
  refine Rn.getf (pc' := 32) rfl (IC_o0 h5.1) rfl rfl rfl ?_
  refine Rn.callV (pc' := 35) rfl (by decide) (by omega) rfl rfl rfl (c_L_cpB (by omega) h5) (fun r_ m_ hc_ => ?_)
  obtain ⟨rfl, F1, I1, rfl, hF1, hI1, hrw, hfl⟩ := hc_
  refine Rn.step (pc' := 36) rfl rfl ?_
  refine Rn.getf (pc' := 39) rfl rfl rfl rfl rfl ?_
  refine Rn.step (pc' := 40) rfl rfl ?_
  refine Rn.getf (pc' := 43) rfl (IC_o0 h5.1) rfl rfl rfl ?_
  refine Rn.vv (pc' := 46) rfl (by decide) (by omega) rfl rfl rfl (c_W_cpB (by omega) h5) ?_
  refine Rn.step (pc' := 47) rfl rfl ?_
  refine Rn.getf (pc' := 50) rfl rfl rfl rfl rfl ?_
  refine Rn.step (pc' := 51) rfl rfl ?_
  refine Rn.getf (pc' := 54) rfl (IC_o0 h5.1) rfl rfl rfl ?_
  refine Rn.vv (pc' := 57) rfl (by decide) (by omega) rfl rfl rfl (c_P_cpB (by omega) h5) ?_
  refine Rn.step (pc' := 58) rfl rfl ?_
  refine Rn.step (pc' := 59) rfl rfl ?_
  refine Rn.getf (pc' := 62) rfl (IC_o0 h5.1) rfl rfl rfl ?_
  refine Rn.cput (pc' := 65) rfl rfl rfl rfl rfl (by decide) rfl ?_
  refine Rn.step (pc' := 66) rfl rfl ?_
  refine Rn.step (pc' := 67) rfl rfl ?_
  refine Rn.getf (pc' := 70) rfl (IC_o0 h5.1) rfl rfl rfl ?_
  refine Rn.cput (pc' := 73) rfl rfl rfl rfl rfl (by decide) rfl ?_
  refine Rn.step (pc' := 74) rfl rfl ?_
  refine Rn.getf (pc' := 77) rfl rfl rfl rfl rfl ?_
  refine Rn.iconst (v := 0) (pc' := 78) rfl (by decide) rfl ?_
  refine Rn.cput (pc' := 81) rfl rfl rfl rfl rfl (by decide) rfl ?_
  refine Rn.step (pc' := 82) rfl rfl ?_
  refine Rn.getf (pc' := 85) rfl rfl rfl rfl rfl ?_
  refine Rn.getf (pc' := 88) rfl rfl rfl rfl rfl ?_
  refine Rn.iconst (v := 31) (pc' := 90) rfl (by decide) rfl ?_
  refine Rn.cald (k := 31) (x := G 9 31) (pc' := 91) rfl rfl rfl (by omega) (show va_cpy (G 9) (I1 9) 0 0 33 31 = G 9 31 from cpy0 (by omega)) (by decide) rfl ?_
  exact Rn.iret rfl (rfl) (⟨rfl, _, _, rfl, fun k a0 a1 a2 a3 => by
        simp only [up_ne _ _ a0, up_ne _ _ a1, up_ne _ _ a2]
        exact hF1 k a3, by
        have := hF1 0 (by decide)
        show upd (upd (F1 0) 13 _) 14 _ = _
        rw [this], by
        have := hF1 10 (by decide)
        show upd (F1 10) 2 0 = _
        rw [this], fun k a0 a1 a2 => by
        simp only [up_ne _ _ a0, up_ne _ _ a1]
        exact hI1 k a2, ⟨⟨fun j hj => (hrw.1 j hj).symm, fun j hj => (hrw.2.1 j hj).symm, fun j hj => (hrw.2.2.1 j hj).symm, fun j hj => (hrw.2.2.2.1 j hj).symm, fun j hj => (hrw.2.2.2.2 j hj).symm⟩, ⟨hfl.1.symm, hfl.2.1.symm, hfl.2.2.1.symm, hfl.2.2.2.1.symm, hfl.2.2.2.2.1.symm, hfl.2.2.2.2.2.1.symm, hfl.2.2.2.2.2.2.symm⟩, fun j hj => (cpy0 hj).symm, fun j hj => (cpy0 hj).symm, rfl, rfl, rfl⟩⟩)
def gBkC (R : Nat → Nat → Option Nat) (x : Int32) : Prop := ¬ (0 ≤ x ∧ x ≤ 3) ∨ R 7 x.toNatClampNeg = none
theorem c_O_back {d : Nat} {Gs : Nat → Nat → Nat → Int32} (hd : 3 ≤ d) (him : ∀ k a, k < 4 → R 7 k = some a → 50 ≤ a ∧ a + 12 ≤ xS ∧ isImg m0 a (Gs k)) (x : Int32) : Cl d j_O_back [.ref 0, .int x] (CC m0 F I L R H) (fun r m2 => (gBkC R x → r = some (.int (-1)) ∧ m2 = (CC m0 F I L R H)) ∧ (¬ gBkC R x → r = some (.int (Gs x.toNatClampNeg 9 31)) ∧ ∃ F1 I1, m2 = CC m0 F1 I1 L R H ∧ (∀ k, k ≠ 0 → k ≠ 10 → k ≠ 12 → k ≠ 17 → F1 k = F k) ∧ F1 0 = upd (upd (F 0) 13 (Gs x.toNatClampNeg 0 3)) 14 (Gs x.toNatClampNeg 0 4) ∧ F1 10 = upd (F 10) 2 0 ∧ (∀ k, k ≠ 9 → k ≠ 13 → (k < 18 ∨ 22 < k) → I1 k = I k) ∧ IMG F1 I1 (Gs x.toNatClampNeg))) := by
  show Rn d j_O_back 0 _ _ _ _
  refine Rn.step (pc' := 1) rfl rfl ?_
  refine Rn.ifc_lt (pc1 := 9) (pc2 := 4) rfl rfl rfl (fun h1 => ?_) (fun h1 => ?_)
  · refine Rn.iconst (v := (-1)) (pc' := 10) rfl (by decide) rfl ?_
    exact Rn.iret rfl (rfl) (⟨fun _ => ⟨rfl, rfl⟩, fun hg => absurd (Or.inl (fun z => absurd h1 (Int32.not_lt.mpr z.1))) hg⟩)
  · refine Rn.step (pc' := 5) rfl rfl ?_
    refine Rn.iconst (v := 4) (pc' := 6) rfl (by decide) rfl ?_
    refine Rn.icmp_lt (pc1 := 11) (pc2 := 9) rfl rfl rfl (fun h6 => ?_) (fun h6 => ?_)
    · have h03 : 0 ≤ x ∧ x ≤ 3 := ⟨Int32.not_lt.mp h1, le3 h6⟩
      obtain ⟨N, hN, rfl⟩ := xN (n := 3) (by decide) (by decide) h03
      have eN : (nI N).toNatClampNeg = N := nI_clamp (by omega)
      refine Rn.step (pc' := 12) rfl rfl ?_
      refine Rn.getf (pc' := 15) rfl rfl rfl rfl rfl ?_
      refine Rn.step (pc' := 16) rfl rfl ?_
      refine Rn.ald7 (k := N) (pc' := 17) rfl rfl (by omega) rfl (fun e7 => ?_) (fun v e7 => ⟨by have := him N v (by omega) e7; omega, ?_⟩)
      · refine Rn.step (pc' := 18) rfl rfl ?_
        refine Rn.step (pc' := 19) rfl rfl ?_
        refine Rn.ifnonnull_null (pc' := 22) rfl rfl ?_
        refine Rn.iconst (v := -1) (pc' := 23) rfl (by decide) rfl ?_
        exact Rn.iret rfl rfl ⟨fun _ => ⟨rfl, rfl⟩, fun hg => absurd (Or.inr (by rw [eN]; exact e7)) hg⟩
      · have hv := him N v (by omega) e7
        refine Rn.step (pc' := 18) rfl rfl ?_
        refine Rn.step (pc' := 19) rfl rfl ?_
        refine Rn.ifnonnull_ref (pc' := 24) rfl (by omega) rfl ?_
        refine Rn.mm (congrArg (fun z => CC z F I L R H) (IC_self hv.2.2).symm) ?_
        refine Rn.conseq (w_O_back24 (a := v) (G := Gs N) (by omega) ⟨hv.1, hv.2.1⟩) (fun r m2 h => ⟨fun hg => absurd hg (fun z => z.elim (fun z => z h03) (fun z => by rw [eN, e7] at z; exact nomatch z)), fun _ => ?_⟩)
        rw [IC_self hv.2.2] at h
        rw [eN]
        exact h
    · refine Rn.iconst (v := (-1)) (pc' := 10) rfl (by decide) rfl ?_
      exact Rn.iret rfl (rfl) (⟨fun _ => ⟨rfl, rfl⟩, fun hg => absurd (Or.inl (fun z => h6 (lt4 z.2))) hg⟩)
end CU
