/-! BOTH: what holds between the calls; questions. -/
section NQ2
variable {b : xM} {v : Nat → Int32} {dx : Int64} {A : Nat → Nat → Int32} {LA : Nat → Nat → Int64} {s : Nat → Int32} {F I : Nat → Nat → Int32} {L : Nat → Nat → Int64} {R : Nat → Nat → Option Nat} {H : Value} {N P Bn Fn Wn K rn n nx tl : Nat} {rl : xRl} {Hs : Nat → Nat → Int32} {Gs : Nat → Nat → Nat → Int32}
theorem CC_MM (b : xM) (v : Nat → Int32) (dx : Int64) (A : Nat → Nat → Int32) (LA : Nat → Nat → Int64) (F I : Nat → Nat → Int32) (L : Nat → Nat → Int64) (R : Nat → Nat → Option Nat) (H : Value) : CC (MM b v dx A LA) F I L R H = MM (CC b F I L R H) v dx A LA := by
  refine Prod.ext rfl (Prod.ext rfl (funext fun k => ?_))
  show (if k < 50 then _ else if 50 ≤ k ∧ k < 69 then _ else _) = (if 50 ≤ k ∧ k < 69 then _ else if k < 50 then _ else _)
  by_cases h1 : k < 50
  · rw [if_pos h1, if_neg (by omega), if_pos h1]
  · by_cases h2 : 50 ≤ k ∧ k < 69
    · rw [if_neg h1, if_pos h2, if_pos h2]
    · rw [if_neg h1, if_neg h2, if_neg h2, if_neg h1]
/-- the tape -/
abbrev vTp (tl : Nat) (v : Nat → Int32) (A F I : Nat → Nat → Int32) : Prop := v 1 = nI tl ∧ F 1 1 = nI tl ∧ tl ≤ 400 ∧ A 51 = I 2 ∧ ∀ i, -128 ≤ I 2 i ∧ I 2 i ≤ 127
/-- what is said, and the class's rows of it -/
abbrev vSa (N P Bn Fn Wn K : Nat) (s : Nat → Int32) (F I : Nat → Nat → Int32) : Prop := LI P Bn Fn Wn s ∧ LR P Bn Fn Wn s F I ∧ WX P Wn s ∧ WR True Bn s (I 9) ∧ PR K s (F 12) (I 13) ∧ DB s N
abbrev vFo (rn : Nat) (x : Int32) : Prop := x = -1 ∨ ∃ r, r < rn ∧ x = nI r
abbrev vRg (rn : Nat) (v : Nat → Int32) (F : Nat → Nat → Int32) : Prop := v 2 = nI rn ∧ F 0 12 = nI rn ∧ rn ≤ 6 ∧ v 21 = F 0 13 ∧ vFo rn (F 0 13) ∧ v 22 = F 0 14 ∧ 0 ≤ F 0 14 ∧ v 23 = -1 ∧ v 24 = 0
/-- the acts that can be undone -/
abbrev vPa (N n nx : Nat) (Hs : Nat → Nat → Int32) (P Bn : Nat) (s v : Nat → Int32) (A F I : Nat → Nat → Int32) : Prop := v 27 = nI n ∧ HS (A 61) n Hs ∧ PA n nx Hs Bn (F 10) (I 11) ∧ ∀ i, i < n → 0 < s 0 ∧ WD P Bn (Hs i) ∧ (∀ k, k < 52 → fxc k → Hs i k = s k) ∧ DB (Hs i) N
/-- these cells hold the rule -/
abbrev rStb (b : xM) (a : Nat) (q : (Nat → Nat × Nat) × Nat × List xCl4) : Prop := 69 ≤ a ∧ a + 3 ≤ b.1 ∧ ∀ b' : xM, (∀ k, a ≤ k → k < a + 3 → b'.2.2 k = b.2.2 k) → RuC b' a q
abbrev vRu (b : xM) (R : Nat → Nat → Option Nat) (A : Nat → Nat → Int32) (rn : Nat) (rl : xRl) : Prop := ∀ r, r < rn → RuW A r (rl r).1 (rl r).2.1 (rl r).2.2 ∧ ∃ a, R 6 r = some a ∧ rStb b a (rl r)
/-- an image of both -/
abbrev vIw (N rn : Nat) (si : Nat → Int32) (x y : Int32) (G : Nat → Nat → Int32) : Prop := ∃ P Bn Fn Wn K F I, IMG F I G ∧ vSa N P Bn Fn Wn K si F I ∧ x = F 0 13 ∧ y = F 0 14 ∧ vFo rn (F 0 13) ∧ 0 ≤ F 0 14
abbrev vIm (N : Nat) (b : xM) (R : Nat → Nat → Option Nat) (A : Nat → Nat → Int32) (rn : Nat) (Gs : Nat → Nat → Nat → Int32) : Prop := ∀ k, k < 4 → (R 7 k = none ∧ A 68 k = 0) ∨ (∃ a, R 7 k = some a ∧ ¬ A 68 k = 0 ∧ 69 ≤ a ∧ a + 12 ≤ b.1 ∧ isImg b a (Gs k) ∧ vIw N rn (fun i => A 65 (151 * k + i)) (A 66 k) (A 67 k) (Gs k))
abbrev vDj (R : Nat → Nat → Option Nat) (rn : Nat) : Prop := (∀ r k a i, r < rn → k < 4 → R 6 r = some a → R 7 k = some i → a + 3 ≤ i ∨ i + 12 ≤ a) ∧ ∀ k k' i i', k < 4 → k' < 4 → k ≠ k' → R 7 k = some i → R 7 k' = some i' → i + 12 ≤ i' ∨ i' + 12 ≤ i
def imN (R : Nat → Nat → Option Nat) : Nat := (if R 7 0 = none then 0 else 1) + (if R 7 1 = none then 0 else 1) + (if R 7 2 = none then 0 else 1) + (if R 7 3 = none then 0 else 1)
abbrev vRo (b : xM) (R : Nat → Nat → Option Nat) (rn : Nat) : Prop := STR0 b ∧ b.1 = 69 + 3 * rn + 12 * imN R ∧ b.2.1 ≤ 16000 + 426 * rn + 168 * imN R
/-- all of it -/
abbrev IV0 (N : Nat) (b : xM) (v : Nat → Int32) (A : Nat → Nat → Int32) (s : Nat → Int32) (F I : Nat → Nat → Int32) (R : Nat → Nat → Option Nat) (P Bn Fn Wn K rn n nx tl : Nat) (rl : xRl) (Hs : Nat → Nat → Int32) (Gs : Nat → Nat → Nat → Int32) : Prop := vTp tl v A F I ∧ vSa N P Bn Fn Wn K s F I ∧ vRg rn v F ∧ vPa N n nx Hs P Bn s v A F I ∧ vRu b R A rn rl ∧ vIm N b R A rn Gs ∧ vDj R rn ∧ vRo b R rn
def INV (N : Nat) (sc : Nat → Int32) (Ls : Nat) (M : xM) : Prop := ∃ b v dx A LA s F I L R H P Bn Fn Wn K rn n nx tl rl Hs Gs, M = CC (MS b v dx A LA s) F I L R H ∧ b.2.2 (xS + 60) = some (.inl (0, Ls, xints sc)) ∧ IV0 N b v A s F I R P Bn Fn Wn K rn n nx tl rl Hs Gs
/-- the model and the script lie in this memory -/
abbrev okM (sc : Nat → Int32) (Ls : Nat) (m : xM) : Prop := (∃ fs, m.2.2 50 = some (.inr (12, fs))) ∧ m.2.2 (xS + 60) = some (.inl (0, Ls, xints sc))
theorem okM_of {sc : Nat → Int32} {Ls : Nat} (hs : b.2.2 (xS + 60) = some (.inl (0, Ls, xints sc))) : okM sc Ls (CC (MM b v dx A LA) F I L R H) := by
  have hx : xS = 1000000 := rfl
  refine ⟨⟨mobj v dx, rfl⟩, ?_⟩
  show (if xS + 60 < 50 then ccell F I L R H (xS + 60) else if 50 ≤ xS + 60 ∧ xS + 60 < 69 then mcell v dx A LA (xS + 60) else b.2.2 (xS + 60)) = _
  rw [if_neg (by omega), if_neg (by omega)]
  exact hs
/-- a call of both: the same answer, and all holds again -/
def BTH (sc : Nat → Int32) (Ls N jO jM : Nat) (as : List Value) (M : xM) : Prop := Cl 59 jO (.ref 0 :: as) M (fun o m => ∃ y : Int32, o = some (.int y) ∧ okM sc Ls m ∧ Cl 59 jM (.ref 50 :: as) m (fun o2 m2 => o2 = some (.int y) ∧ INV (N + 1) sc Ls m2))
theorem imN_le (R : Nat → Nat → Option Nat) : imN R ≤ 4 := by
  unfold imN
  repeat' split
  all_goals omega
section IV
theorem IV0.ob (h : IV0 N b v A s F I R P Bn Fn Wn K rn n nx tl rl Hs Gs) (hN : N ≤ 550) {dx : Int64} {LA : Nat → Nat → Int64} : OB P Bn Fn Wn K rn (F 0 13) rl s F I R (MS b v dx A LA s) := by
  obtain ⟨_, ⟨a1, a2, a3, a4, a5, a6⟩, ⟨c1, c2, c3, c4, c5, _⟩, _, e, _⟩ := h
  refine ⟨a1, a2, a3, a4, a5, c2, c3, rfl, c5, fun r hr => ?_, a6.up hN⟩
  obtain ⟨_, a, h1, h2, h3, h4⟩ := e r hr
  exact ⟨a, h1, h4 _ (fun k hk _ => if_neg (by omega))⟩
theorem IV0.ru (h : IV0 N b v A s F I R P Bn Fn Wn K rn n nx tl rl Hs Gs) : mRu v A rl := by
  obtain ⟨_, _, ⟨_, _, c3, c4, c5, _⟩, _, e, _⟩ := h
  rcases c5 with z | ⟨r, hr, z⟩
  · exact Or.inl (by rw [c4, z]; decide)
  · exact Or.inr ⟨r, by omega, c4.trans z, (e r hr).1⟩
theorem IV0.ev (h : IV0 N b v A s F I R P Bn Fn Wn K rn n nx tl rl Hs Gs) : evf v rl Bn Fn Wn = (F 0 13, rl, -1, 0, Bn, Fn, Wn) := by
  obtain ⟨_, _, ⟨_, _, _, c4, _, _, _, c8, c9⟩, _⟩ := h
  show (v 21, rl, v 23, v 24, Bn, Fn, Wn) = _
  rw [c4, c8, c9]
end IV
theorem RuW.eq {A' : Nat → Nat → Int32} {r : Nat} {ts : Nat → Nat × Nat} {M : Nat} {Lc : List xCl4} (h : RuW A r ts M Lc) (h2 : A' 52 = A 52) (h4 : A' 54 = A 54) (h5 : A' 55 = A 55) : RuW A' r ts M Lc := by
  unfold RuW ClW at h ⊢
  rw [h2, h4, h5]
  exact h
theorem vIm.up {N2 : Nat} (h : vIm N b R A rn Gs) (hN : N ≤ N2) : vIm N2 b R A rn Gs := fun k hk => by
  rcases h k hk with h | ⟨a, h1, h2, h3, h4, h5, P, Bn, Fn, Wn, K, F, I, g1, ⟨q1, q2, q3, q4, q5, q6⟩, g3⟩
  · exact Or.inl h
  · exact Or.inr ⟨a, h1, h2, h3, h4, h5, P, Bn, Fn, Wn, K, F, I, g1, ⟨q1, q2, q3, q4, q5, q6.up hN⟩, g3⟩
theorem vPa.up {N2 : Nat} (h : vPa N n nx Hs P Bn s v A F I) (hN : N ≤ N2) : vPa N2 n nx Hs P Bn s v A F I := ⟨h.1, h.2.1, h.2.2.1, fun i hi => by
  obtain ⟨a, b, c, d⟩ := h.2.2.2 i hi
  exact ⟨a, b, c, d.up hN⟩⟩
theorem vSa.up {N2 : Nat} (h : vSa N P Bn Fn Wn K s F I) (hN : N ≤ N2) : vSa N2 P Bn Fn Wn K s F I := ⟨h.1, h.2.1, h.2.2.1, h.2.2.2.1, h.2.2.2.2.1, h.2.2.2.2.2.up hN⟩
/-- what a question leaves -/
theorem IV0.q {F1 I1 A' : Nat → Nat → Int32} {v' : Nat → Int32} (h : IV0 N b v A s F I R P Bn Fn Wn K rn n nx tl rl Hs Gs) (hF : qF F F1) (hI : qI I I1) (hv : ∀ i, ¬ scr i → v' i = v i) (hA : ∀ k, ¬ sca k → A' k = A k) : IV0 (N + 1) b v' A' s F1 I1 R P Bn Fn Wn K rn n nx tl rl Hs Gs := by
  obtain ⟨⟨t1, t2, t3, t4, t5⟩, a, ⟨c1, c2, c3, c4, c5, c6, c7, c8, c9⟩, p, e, f, g, r⟩ := h
  have sv : ∀ i, i = 1 ∨ i = 2 ∨ i = 21 ∨ i = 22 ∨ i = 23 ∨ i = 24 ∨ i = 27 → v' i = v i := fun i hi => hv i (by unfold scr; omega)
  have sA : ∀ i, i = 51 ∨ i = 52 ∨ i = 54 ∨ i = 55 ∨ i = 61 ∨ i = 65 ∨ i = 66 ∨ i = 67 ∨ i = 68 → A' i = A i := fun i hi => hA i (by unfold sca; omega)
  have f0 := hF 0 (by omega)
  have f1 := hF 1 (by omega)
  have f10 := hF 10 (by omega)
  have f12 := hF 12 (by omega)
  have f17 := hF 17 (by omega)
  have i2 := hI 2 (by omega)
  have i9 := hI 9 (by omega)
  have i11 := hI 11 (by omega)
  have i13 := hI 13 (by omega)
  refine ⟨⟨(sv 1 (by omega)).trans t1, by rw [f1]; exact t2, t3, by rw [sA 51 (by omega), i2]; exact t4, by rw [i2]; exact t5⟩, ?_, ?_, ?_, ?_, ?_, g, r⟩
  · obtain ⟨a1, a2, a3, a4, a5, a6⟩ := a.up (Nat.le_succ N)
    refine ⟨a1, ?_, a3, by rw [i9]; exact a4, by rw [f12, i13]; exact a5, a6⟩
    unfold LR
    rw [f17, hI 18 (by omega), hI 19 (by omega), hI 20 (by omega), hI 21 (by omega), hI 22 (by omega)]
    exact a2
  · show v' 2 = nI rn ∧ F1 0 12 = nI rn ∧ rn ≤ 6 ∧ v' 21 = F1 0 13 ∧ vFo rn (F1 0 13) ∧ v' 22 = F1 0 14 ∧ 0 ≤ F1 0 14 ∧ v' 23 = -1 ∧ v' 24 = 0
    rw [f0]
    exact ⟨(sv 2 (by omega)).trans c1, c2, c3, (sv 21 (by omega)).trans c4, c5, (sv 22 (by omega)).trans c6, c7, (sv 23 (by omega)).trans c8, (sv 24 (by omega)).trans c9⟩
  · obtain ⟨p1, p2, p3, p4⟩ := p.up (Nat.le_succ N)
    exact ⟨(sv 27 (by omega)).trans p1, by rw [sA 61 (by omega)]; exact p2, by rw [f10, i11]; exact p3, p4⟩
  · intro x hx
    exact ⟨RuW.eq (e x hx).1 (sA 52 (by omega)) (sA 54 (by omega)) (sA 55 (by omega)), (e x hx).2⟩
  · intro k hk
    rw [sA 65 (by omega), sA 66 (by omega), sA 67 (by omega), sA 68 (by omega)]
    exact (vIm.up f (Nat.le_succ N)) k hk
/-- a question -/
theorem bth_q {sc : Nat → Int32} {Ls jO jM : Nat} {as : List Value} {g : Prop} {X Y X' Y' : Int32} (h : IV0 N b v A s F I R P Bn Fn Wn K rn n nx tl rl Hs Gs) (hs : b.2.2 (xS + 60) = some (.inl (0, Ls, xints sc)))
    (hO : Cl 59 jO (.ref 0 :: as) (CC (MS b v dx A LA s) F I L R H) (fun o m2 => (g → o = some (.int X) ∧ QG (MS b v dx A LA s) F I R m2) ∧ (¬ g → o = some (.int Y) ∧ QG (MS b v dx A LA s) F I R m2)))
    (hM : ∀ m0, Cl 59 jM (.ref 50 :: as) (MS m0 v dx A LA s) (fun o m2 => (g → o = some (.int X') ∧ MG m0 v A s m2) ∧ (¬ g → o = some (.int Y') ∧ MG m0 v A s m2))) (hX : X' = X) (hY : Y' = Y) : BTH sc Ls N jO jM as (CC (MS b v dx A LA s) F I L R H) := by
  subst hX hY
  refine Cl.conseq hO ?_
  rintro o m ⟨h1, h2⟩
  have key : ∀ Z : Int32, (∀ (m0 : xM) (o2 : Option Value) (m2 : xM), ((g → o2 = some (.int X') ∧ MG m0 v A s m2) ∧ (¬ g → o2 = some (.int Y') ∧ MG m0 v A s m2)) → o2 = some (.int Z) ∧ MG m0 v A s m2) → o = some (.int Z) ∧ QG (MS b v dx A LA s) F I R m → ∃ y : Int32, o = some (.int y) ∧ okM sc Ls m ∧ Cl 59 jM (.ref 50 :: as) m (fun o2 m2 => o2 = some (.int y) ∧ INV (N + 1) sc Ls m2) := by
    rintro Z hZ ⟨rfl, F1, I1, L1, H1, rfl, qf, qi⟩
    refine ⟨Z, rfl, okM_of hs, ?_⟩
    rw [CC_MM]
    refine Cl.conseq (hM (CC b F1 I1 L1 R H1)) ?_
    rintro o2 m2 hh
    obtain ⟨rfl, v', dx', A', LA', rfl, e1, e2⟩ := hZ _ o2 m2 hh
    refine ⟨rfl, b, v', dx', A', LA', s, F1, I1, L1, R, H1, P, Bn, Fn, Wn, K, rn, n, nx, tl, rl, Hs, Gs, ?_, hs, h.q qf qi e1 e2⟩
    exact (CC_MM _ _ _ _ _ _ _ _ _ _).symm
  by_cases hg : g
  · exact key X' (fun m0 o2 m2 z => z.1 hg) (h1 hg)
  · exact key Y' (fun m0 o2 m2 z => z.2 hg) (h2 hg)
theorem bth_p {sc : Nat → Int32} {Ls jO jM : Nat} {as : List Value} {X : Int32} (h : IV0 N b v A s F I R P Bn Fn Wn K rn n nx tl rl Hs Gs) (hs : b.2.2 (xS + 60) = some (.inl (0, Ls, xints sc)))
    (hO : Cl 59 jO (.ref 0 :: as) (CC (MS b v dx A LA s) F I L R H) (Pi X (CC (MS b v dx A LA s) F I L R H)))
    (hM : ∀ m0, Cl 59 jM (.ref 50 :: as) (MS m0 v dx A LA s) (Pi X (MS m0 v dx A LA s))) : BTH sc Ls N jO jM as (CC (MS b v dx A LA s) F I L R H) := by
  refine Cl.conseq hO ?_
  rintro o m ⟨rfl, rfl⟩
  refine ⟨X, rfl, okM_of hs, ?_⟩
  rw [CC_MM]
  refine Cl.conseq (hM (CC b F I L R H)) ?_
  rintro o2 m2 ⟨rfl, rfl⟩
  refine ⟨rfl, b, v, dx, A, LA, s, F, I, L, R, H, P, Bn, Fn, Wn, K, rn, n, nx, tl, rl, Hs, Gs, ?_, hs, h.q (fun _ _ => rfl) (fun _ _ => rfl) (fun _ _ => rfl) (fun _ _ => rfl)⟩
  exact (CC_MM _ _ _ _ _ _ _ _ _ _).symm
section BQ
variable {M : xM} {sc : Nat → Int32} {Ls : Nat}
theorem b_brother (h : INV N sc Ls M) (hN : N ≤ 550) (x y : Int32) : BTH sc Ls N j_O_brother j_M_brother [.int x, .int y] M := by
  obtain ⟨b, v, dx, A, LA, s, F, I, L, R, H, P, Bn, Fn, Wn, K, rn, n, nx, tl, rl, Hs, Gs, rfl, hs, h⟩ := h
  have ob := h.ob hN (dx := dx) (LA := LA)
  have hi := ob.li
  have hru := h.ru
  have he := h.ev
  have hv : v 24 = 0 ∨ v 24 = 1 := Or.inl h.2.2.1.2.2.2.2.2.2.2.2
  have hpr := ob.pr
  exact bth_p h hs (c_O_brother (by omega) ob x y) (fun m0 => c_M_brother (by omega) hi x y)
theorem b_boot (h : INV N sc Ls M) (hN : N ≤ 550) (x y : Int32) : BTH sc Ls N j_O_boot j_M_boot [.int x, .int y] M := by
  obtain ⟨b, v, dx, A, LA, s, F, I, L, R, H, P, Bn, Fn, Wn, K, rn, n, nx, tl, rl, Hs, Gs, rfl, hs, h⟩ := h
  have ob := h.ob hN (dx := dx) (LA := LA)
  have hi := ob.li
  have hru := h.ru
  have he := h.ev
  have hv : v 24 = 0 ∨ v 24 = 1 := Or.inl h.2.2.1.2.2.2.2.2.2.2.2
  have hpr := ob.pr
  exact bth_p h hs (c_O_boot (by omega) ob x y) (fun m0 => c_M_boot (by omega) hi x y)
theorem b_wet (h : INV N sc Ls M) (hN : N ≤ 550) (x : Int32) : BTH sc Ls N j_O_wet j_M_wet [.int x] M := by
  obtain ⟨b, v, dx, A, LA, s, F, I, L, R, H, P, Bn, Fn, Wn, K, rn, n, nx, tl, rl, Hs, Gs, rfl, hs, h⟩ := h
  have ob := h.ob hN (dx := dx) (LA := LA)
  have hi := ob.li
  have hru := h.ru
  have he := h.ev
  have hv : v 24 = 0 ∨ v 24 = 1 := Or.inl h.2.2.1.2.2.2.2.2.2.2.2
  have hpr := ob.pr
  exact bth_p h hs (c_O_wet (by omega) ob x) (fun m0 => c_M_wet (by omega) x hi)
theorem b_count (h : INV N sc Ls M) (hN : N ≤ 550) (y : Int32) : BTH sc Ls N j_O_count j_M_count [.int y] M := by
  obtain ⟨b, v, dx, A, LA, s, F, I, L, R, H, P, Bn, Fn, Wn, K, rn, n, nx, tl, rl, Hs, Gs, rfl, hs, h⟩ := h
  have ob := h.ob hN (dx := dx) (LA := LA)
  have hi := ob.li
  have hru := h.ru
  have he := h.ev
  have hv : v 24 = 0 ∨ v 24 = 1 := Or.inl h.2.2.1.2.2.2.2.2.2.2.2
  have hpr := ob.pr
  exact bth_p h hs (c_O_count (by omega) ob (v := v) (h.2.2.1.1.trans h.2.2.1.2.1.symm) h.2.2.1.2.2.2.1 (h.2.2.2.1.1.trans h.2.2.2.1.2.2.1.2.2.1.symm) h.2.2.1.2.2.2.2.2.1 (h.1.1.trans h.1.2.1.symm) y) (fun m0 => c_M_count (by omega) hi.bn hi.b6 y)
theorem b_ahead (h : INV N sc Ls M) (hN : N ≤ 550) (x n_ y : Int32) : BTH sc Ls N j_O_ahead j_M_ahead [.int x, .int n_, .int y] M := by
  obtain ⟨b, v, dx, A, LA, s, F, I, L, R, H, P, Bn, Fn, Wn, K, rn, n, nx, tl, rl, Hs, Gs, rfl, hs, h⟩ := h
  have ob := h.ob hN (dx := dx) (LA := LA)
  have hi := ob.li
  have hru := h.ru
  have he := h.ev
  have hv : v 24 = 0 ∨ v 24 = 1 := Or.inl h.2.2.1.2.2.2.2.2.2.2.2
  have hpr := ob.pr
  exact bth_q h hs (c_O_ahead (by omega) ob x n_ y) (fun m0 => c_M_ahead hi hv hru (by omega) x n_ y) rfl (by rw [he])
theorem b_lend (h : INV N sc Ls M) (hN : N ≤ 550) (x y : Int32) : BTH sc Ls N j_O_lend j_M_lend [.int x, .int y] M := by
  obtain ⟨b, v, dx, A, LA, s, F, I, L, R, H, P, Bn, Fn, Wn, K, rn, n, nx, tl, rl, Hs, Gs, rfl, hs, h⟩ := h
  have ob := h.ob hN (dx := dx) (LA := LA)
  have hi := ob.li
  have hru := h.ru
  have he := h.ev
  have hv : v 24 = 0 ∨ v 24 = 1 := Or.inl h.2.2.1.2.2.2.2.2.2.2.2
  have hpr := ob.pr
  exact bth_q h hs (c_O_lend (by omega) ob x y) (fun m0 => c_M_lend hi hv hru (by omega) x y) rfl (by rw [he])
theorem b_worth (h : INV N sc Ls M) (hN : N ≤ 550) (x y : Int32) : BTH sc Ls N j_O_worth j_M_worth [.int x, .int y] M := by
  obtain ⟨b, v, dx, A, LA, s, F, I, L, R, H, P, Bn, Fn, Wn, K, rn, n, nx, tl, rl, Hs, Gs, rfl, hs, h⟩ := h
  have ob := h.ob hN (dx := dx) (LA := LA)
  have hi := ob.li
  have hru := h.ru
  have he := h.ev
  have hv : v 24 = 0 ∨ v 24 = 1 := Or.inl h.2.2.1.2.2.2.2.2.2.2.2
  have hpr := ob.pr
  exact bth_q h hs (c_O_worth (by omega) ob x y) (fun m0 => c_M_worth hi hv hru (by omega) x y) rfl (by rw [he])
theorem b_bids (h : INV N sc Ls M) (hN : N ≤ 550) (x : Int32) : BTH sc Ls N j_O_bids j_M_bids [.int x] M := by
  obtain ⟨b, v, dx, A, LA, s, F, I, L, R, H, P, Bn, Fn, Wn, K, rn, n, nx, tl, rl, Hs, Gs, rfl, hs, h⟩ := h
  have ob := h.ob hN (dx := dx) (LA := LA)
  have hi := ob.li
  have hru := h.ru
  have he := h.ev
  have hv : v 24 = 0 ∨ v 24 = 1 := Or.inl h.2.2.1.2.2.2.2.2.2.2.2
  have hpr := ob.pr
  exact bth_q h hs (c_O_bids (by omega) ob x) (fun m0 => c_M_bids hi hv hru (by omega) x) rfl (by rw [he])
theorem b_relay (h : INV N sc Ls M) (hN : N ≤ 550) (x y : Int32) : BTH sc Ls N j_O_relay j_M_relay [.int x, .int y] M := by
  obtain ⟨b, v, dx, A, LA, s, F, I, L, R, H, P, Bn, Fn, Wn, K, rn, n, nx, tl, rl, Hs, Gs, rfl, hs, h⟩ := h
  have ob := h.ob hN (dx := dx) (LA := LA)
  have hi := ob.li
  have hru := h.ru
  have he := h.ev
  have hv : v 24 = 0 ∨ v 24 = 1 := Or.inl h.2.2.1.2.2.2.2.2.2.2.2
  have hpr := ob.pr
  exact bth_q h hs (c_O_relay (by omega) ob x y) (fun m0 => c_M_relay hi hv hru (by omega) x y) rfl (by rw [he])
theorem b_feet (h : INV N sc Ls M) (hN : N ≤ 550) (y : Int32) : BTH sc Ls N j_O_feet j_M_feet [.int y] M := by
  obtain ⟨b, v, dx, A, LA, s, F, I, L, R, H, P, Bn, Fn, Wn, K, rn, n, nx, tl, rl, Hs, Gs, rfl, hs, h⟩ := h
  have ob := h.ob hN (dx := dx) (LA := LA)
  have hi := ob.li
  have hru := h.ru
  have he := h.ev
  have hv : v 24 = 0 ∨ v 24 = 1 := Or.inl h.2.2.1.2.2.2.2.2.2.2.2
  have hpr := ob.pr
  exact bth_q h hs (c_O_feet (by omega) ob y) (fun m0 => c_M_feet hi hv hru hpr.k hpr.n (by omega) y) rfl (by rw [he])
theorem b_second (h : INV N sc Ls M) (hN : N ≤ 550) (x n_ y : Int32) : BTH sc Ls N j_O_second j_M_second [.int x, .int n_, .int y] M := by
  obtain ⟨b, v, dx, A, LA, s, F, I, L, R, H, P, Bn, Fn, Wn, K, rn, n, nx, tl, rl, Hs, Gs, rfl, hs, h⟩ := h
  have ob := h.ob hN (dx := dx) (LA := LA)
  have hi := ob.li
  have hru := h.ru
  have he := h.ev
  have hv : v 24 = 0 ∨ v 24 = 1 := Or.inl h.2.2.1.2.2.2.2.2.2.2.2
  have hpr := ob.pr
  exact bth_q h hs (c_O_second (by omega) ob x n_ y) (fun m0 => c_M_second hi hv h.2.2.1.2.2.2.2.2.2.2.1 hru (by omega) x n_ y) rfl (by rw [he])
end BQ
end NQ2
