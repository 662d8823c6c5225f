/-! THE MODEL: second, winters, image, back. -/
section MJ
variable {m0 : xM} {v : Nat → Int32} {dx : Int64} {A : Nat → Nat → Int32} {LA : Nat → Nat → Int64} {s : Nat → Int32}
abbrev eSec (E : xEv) (x : Int32) : xEv := (E.1, E.2.1, x, E.2.2.2)
abbrev eFd (E : xEv) (x : Int32) : xEv := (E.1, E.2.1, E.2.2.1, x, E.2.2.2.2)
/-- who would have a second pair, and what it would bring more: of the first k -/
def sdE (E : xEv) (s : Nat → Int32) (N : Nat) (size : Int32) : Nat → Int32 × Int32
  | 0 => (-2, 0)
  | k + 1 => if ¬ mB1 s (nI k) = 0 ∨ size < s (10 + 6 * k + 2) then sdE E s N size k else if ¬ (sdE E s N size k).1 < 0 ∧ ¬ (sdE E s N size k).2 < oP (eSec E (nI k)) s N - oP E s N then sdE E s N size k else (nI k, oP (eSec E (nI k)) s N - oP E s N)
theorem sdE_s (E : xEv) (s : Nat → Int32) (N : Nat) (size : Int32) (k : Nat) : sdE E s N size (k + 1) = if ¬ mB1 s (nI k) = 0 ∨ size < s (10 + 6 * k + 2) then sdE E s N size k else if ¬ (sdE E s N size k).1 < 0 ∧ ¬ (sdE E s N size k).2 < oP (eSec E (nI k)) s N - oP E s N then sdE E s N size k else (nI k, oP (eSec E (nI k)) s N - oP E s N) := rfl
def gSe (s : Nat → Int32) (x n y : Int32) : Prop := ¬ 0 < s 0 ∨ ¬ (0 ≤ x ∧ x ≤ 9) ∨ ¬ (1 ≤ n ∧ n ≤ 24) ∨ ¬ (0 ≤ y ∧ y ≤ 1)
theorem l_M_second {d P Bn Fn Wn N : Nat} {rl : xRl} {x y : Int32} (hl : WL P Bn Fn Wn s) (hw : WD P Bn s) (hv : v 24 = 0 ∨ v 24 = 1) (h23 : v 23 = -1) (hru : mRu v A rl) (hd : 7 ≤ d) (hN : N < 1000) (k : Nat) (hk : k ≤ Bn) (x8 : Value) {m : xM} (hm : MU m0 v A s (fun _ _ B => ∀ i, i < 52 → B 62 i = s i) m) : Rn d j_M_second 70 [.ref 50, .int x, .int (nI N), .int y, .int (oP (evf v rl Bn Fn Wn) s N), .int (sdE (evf v rl Bn Fn Wn) s N x k).1, .int (sdE (evf v rl Bn Fn Wn) s N x k).2, .int (nI k), x8] [] m (fun r m2 => r = some (.int (if y = 0 then (sdE (evf v rl Bn Fn Wn) s N x Bn).2 else (sdE (evf v rl Bn Fn Wn) s N x Bn).1)) ∧ MG m0 v A s m2) := by
  obtain ⟨v1, dx1, A1, LA1, rfl, vs1, as1, q62⟩ := hm
  have hb6 := hl.b6
  have hE := evf_eq vs1 rl Bn Fn Wn
  have hE2 : ∀ k, evf (upd v1 23 (nI k)) rl Bn Fn Wn = eSec (evf v rl Bn Fn Wn) (nI k) := fun k => by
    rw [← hE]
    rfl
  refine Rn.step (pc' := 72) rfl rfl ?_
  refine Rn.step (pc' := 73) rfl rfl ?_
  refine Rn.getf (pc' := 76) rfl rfl rfl rfl rfl ?_
  refine Rn.iconst (v := 2) (pc' := 77) rfl (by decide) rfl ?_
  refine Rn.sald (k := 2) (pc' := 78) rfl rfl (by simp only [nI_lit, nI_add, pk_mul]) (by omega) (by decide) rfl ?_
  refine Rn.icmp_ge (pc1 := 158) (pc2 := 81) rfl rfl rfl (fun h78 => ?_) (fun h78 => ?_)
  · obtain rfl := nI_up (by omega) hk (hl.b ▸ h78)
    refine Rn.step (pc' := 159) rfl rfl ?_
    refine Rn.ifc_ne (pc1 := 167) (pc2 := 162) rfl rfl rfl (fun h159 => ?_) (fun h159 => ?_)
    · refine Rn.step (pc' := 169) rfl rfl ?_
      exact Rn.iret rfl (rfl) (⟨by rw [if_neg h159], v1, dx1, A1, LA1, rfl, vs1, as1⟩)
    · refine Rn.step (pc' := 164) rfl rfl ?_
      refine Rn.step (pc' := 169) rfl rfl ?_
      exact Rn.iret rfl (rfl) (⟨by rw [if_pos h159], v1, dx1, A1, LA1, rfl, vs1, as1⟩)
  · have hk2 := nI_dn (by omega) hk (hl.b ▸ h78)
    refine Rn.step (pc' := 82) rfl rfl ?_
    refine Rn.step (pc' := 84) rfl rfl ?_
    refine Rn.vi (pc' := 87) rfl (by decide) (by omega) rfl rfl rfl (c_M_bootsOn (by omega) (nI k)) ?_
    refine Rn.ifc_ne (pc1 := 152) (pc2 := 90) rfl rfl rfl (fun h87 => ?_) (fun h87 => ?_)
    · refine Rn.step (pc' := 155) rfl rfl ?_
      refine Rn.step (pc' := 70) rfl rfl ?_
      have e : sdE (evf v rl Bn Fn Wn) s N x (k + 1) = sdE (evf v rl Bn Fn Wn) s N x k := by rw [sdE_s, if_pos (Or.inl h87)]
      have := l_M_second (y := y) (x := x) hl hw hv h23 hru hd hN (k + 1) (by omega) x8 ⟨v1, dx1, A1, LA1, rfl, vs1, as1, q62⟩
      rw [e, ← nI_i1 k] at this
      exact this
    · refine Rn.step (pc' := 91) rfl rfl ?_
      refine Rn.step (pc' := 93) rfl rfl ?_
      refine Rn.iconst (v := 2) (pc' := 94) rfl (by decide) rfl ?_
      refine Rn.vi (pc' := 97) rfl (by decide) (by omega) rfl rfl rfl (c_M_brotherOf k 2 (by omega)) ?_
      refine Rn.step (pc' := 98) rfl rfl ?_
      refine Rn.icmp_le (pc1 := 104) (pc2 := 101) rfl rfl rfl (fun h98 => ?_) (fun h98 => ?_)
      · refine Rn.step (pc' := 105) rfl rfl ?_
        refine Rn.step (pc' := 107) rfl rfl ?_
        refine Rn.mput (pc' := 110) rfl rfl rfl rfl (by decide) rfl ?_
        refine Rn.step (pc' := 111) rfl rfl ?_
        refine Rn.step (pc' := 112) rfl rfl ?_
        refine Rn.callV (pc' := 115) rfl (by decide) (by omega) rfl rfl rfl (g_on hl hw (v := upd v1 23 (nI k)) (show v1 24 = 0 ∨ v1 24 = 1 from hv_g hv vs1) (mRu.a (hru.g vs1 as1) rfl rfl rfl rfl) (by omega) hN) (fun r_ m_ hc_ => ?_)
        obtain ⟨hr, z3, x3, LA3, rfl⟩ := hc_
        rw [hE2] at hr ⊢
        subst hr
        refine Rn.step (pc' := 117) rfl rfl ?_
        refine Rn.isub (pc' := 118) rfl rfl ?_
        refine Rn.step (pc' := 120) rfl rfl ?_
        refine Rn.step (pc' := 121) rfl rfl ?_
        refine Rn.vv (pc' := 124) rfl (by decide) (by omega) rfl rfl rfl (c_M_laysBack) ?_
        rw [cpf_back2 (mPo_w (E := eSec (evf v rl Bn Fn Wn) (nI k)) 0 hl hw N).1 q62]
        refine Rn.step (pc' := 125) rfl rfl ?_
        refine Rn.iconst (v := (-1)) (pc' := 126) rfl (by decide) rfl ?_
        refine Rn.mput (pc' := 129) rfl rfl rfl rfl (by decide) rfl ?_
        have vs9 : ∀ i, ¬ scr i → upd (upd (upd (upd v1 23 (nI k)) 25 z3) 18 x3) 23 (-1) i = v i := fun i hi => by
          by_cases e : i = 23
          · subst e
            rw [upd_s, h23]
          · rw [upd_n _ _ e, upd_n _ _ (fun e => hi (by unfold scr; omega)), upd_n _ _ (fun e => hi (by unfold scr; omega)), upd_n _ _ e]
            exact vs1 i hi
        refine Rn.step (pc' := 131) rfl rfl ?_
        refine Rn.ifc_lt (pc1 := 144) (pc2 := 134) rfl rfl rfl (fun h131 => ?_) (fun h131 => ?_)
        · refine Rn.step (pc' := 146) rfl rfl ?_
          refine Rn.step (pc' := 148) rfl rfl ?_
          refine Rn.step (pc' := 150) rfl rfl ?_
          refine Rn.step (pc' := 152) rfl rfl ?_
          refine Rn.step (pc' := 155) rfl rfl ?_
          refine Rn.step (pc' := 70) rfl rfl ?_
          have e : sdE (evf v rl Bn Fn Wn) s N x (k + 1) = (nI k, oP (eSec (evf v rl Bn Fn Wn) (nI k)) s N - oP (evf v rl Bn Fn Wn) s N) := by rw [sdE_s, if_neg (fun z => z.elim (fun c => c h87) (Int32.not_lt.mpr h98)), if_neg (fun z => z.1 h131)]
          have := l_M_second (y := y) (x := x) hl hw hv h23 hru hd hN (k + 1) (by omega) (.int (oP (eSec (evf v rl Bn Fn Wn) (nI k)) s N - oP (evf v rl Bn Fn Wn) s N)) ⟨_, dx1, A1, LA3, rfl, vs9, as1, q62⟩
          rw [e, ← nI_i1 k] at this
          exact this
        · refine Rn.step (pc' := 136) rfl rfl ?_
          refine Rn.step (pc' := 138) rfl rfl ?_
          refine Rn.icmp_gt (pc1 := 144) (pc2 := 141) rfl rfl rfl (fun h138 => ?_) (fun h138 => ?_)
          · refine Rn.step (pc' := 146) rfl rfl ?_
            refine Rn.step (pc' := 148) rfl rfl ?_
            refine Rn.step (pc' := 150) rfl rfl ?_
            refine Rn.step (pc' := 152) rfl rfl ?_
            refine Rn.step (pc' := 155) rfl rfl ?_
            refine Rn.step (pc' := 70) rfl rfl ?_
            have e : sdE (evf v rl Bn Fn Wn) s N x (k + 1) = (nI k, oP (eSec (evf v rl Bn Fn Wn) (nI k)) s N - oP (evf v rl Bn Fn Wn) s N) := by rw [sdE_s, if_neg (fun z => z.elim (fun c => c h87) (Int32.not_lt.mpr h98)), if_neg (fun z => z.2 h138)]
            have := l_M_second (y := y) (x := x) hl hw hv h23 hru hd hN (k + 1) (by omega) (.int (oP (eSec (evf v rl Bn Fn Wn) (nI k)) s N - oP (evf v rl Bn Fn Wn) s N)) ⟨_, dx1, A1, LA3, rfl, vs9, as1, q62⟩
            rw [e, ← nI_i1 k] at this
            exact this
          · refine Rn.step (pc' := 152) rfl rfl ?_
            refine Rn.step (pc' := 155) rfl rfl ?_
            refine Rn.step (pc' := 70) rfl rfl ?_
            have e : sdE (evf v rl Bn Fn Wn) s N x (k + 1) = sdE (evf v rl Bn Fn Wn) s N x k := by rw [sdE_s, if_neg (fun z => z.elim (fun c => c h87) (Int32.not_lt.mpr h98)), if_pos ⟨h131, h138⟩]
            have := l_M_second (y := y) (x := x) hl hw hv h23 hru hd hN (k + 1) (by omega) (.int (oP (eSec (evf v rl Bn Fn Wn) (nI k)) s N - oP (evf v rl Bn Fn Wn) s N)) ⟨_, dx1, A1, LA3, rfl, vs9, as1, q62⟩
            rw [e, ← nI_i1 k] at this
            exact this
      · refine Rn.step (pc' := 152) rfl rfl ?_
        refine Rn.step (pc' := 155) rfl rfl ?_
        refine Rn.step (pc' := 70) rfl rfl ?_
        have e : sdE (evf v rl Bn Fn Wn) s N x (k + 1) = sdE (evf v rl Bn Fn Wn) s N x k := by rw [sdE_s, if_pos (Or.inr (Int32.not_le.mp h98))]
        have := l_M_second (y := y) (x := x) hl hw hv h23 hru hd hN (k + 1) (by omega) x8 ⟨v1, dx1, A1, LA1, rfl, vs1, as1, q62⟩
        rw [e, ← nI_i1 k] at this
        exact this
termination_by Bn - k
theorem c_M_second {d P Bn Fn Wn : Nat} {rl : xRl} (hi : LI P Bn Fn Wn s) (hv : v 24 = 0 ∨ v 24 = 1) (h23 : v 23 = -1) (hru : mRu v A rl) (hd : 8 ≤ d) (x n y : Int32) : Cl d j_M_second [.ref 50, .int x, .int n, .int y] (MS m0 v dx A LA s) (fun r m2 => (gSe s x n y → r = some (.int (-100000)) ∧ MG m0 v A s m2) ∧ (¬ gSe s x n y → r = some (.int (if y = 0 then (sdE (evf v rl Bn Fn Wn) s n.toNatClampNeg x Bn).2 else (sdE (evf v rl Bn Fn Wn) s n.toNatClampNeg x Bn).1)) ∧ MG m0 v A s m2)) := by
  show Rn d j_M_second 0 _ _ _ _
  refine Rn.step (pc' := 1) rfl rfl ?_
  refine Rn.vi (pc' := 4) rfl (by decide) (by omega) rfl rfl rfl (c_M_isLane) ?_
  refine Rn.ifp_eq (pc1 := 41) (pc2 := 7) rfl rfl rfl (fun h4 => ?_) (fun h4 => ?_)
  · refine Rn.iconst (v := (-100000)) (pc' := 44) rfl (by decide) rfl ?_
    exact Rn.iret rfl (rfl) (⟨fun _ => ⟨rfl, MG.rfl _ _ _ _ _ _⟩, fun hg => absurd (Or.inl h4) hg⟩)
  · refine Rn.step (pc' := 8) rfl rfl ?_
    refine Rn.i2l (pc' := 9) rfl rfl ?_
    refine Rn.ldc2 (v := 0) (pc' := 10) rfl (by decide) rfl ?_
    refine Rn.ldc2 (v := 9) (pc' := 13) rfl (by decide) rfl ?_
    refine Rn.si (pc' := 16) rfl (by decide) (by omega) rfl rfl (c_M_inI x 0 9 rfl rfl) ?_
    refine Rn.ifp_eq (pc1 := 41) (pc2 := 19) rfl rfl rfl (fun h16 => ?_) (fun h16 => ?_)
    · refine Rn.iconst (v := (-100000)) (pc' := 44) rfl (by decide) rfl ?_
      exact Rn.iret rfl (rfl) (⟨fun _ => ⟨rfl, MG.rfl _ _ _ _ _ _⟩, fun hg => absurd (Or.inr (Or.inl h16)) hg⟩)
    · refine Rn.step (pc' := 20) rfl rfl ?_
      refine Rn.i2l (pc' := 21) rfl rfl ?_
      refine Rn.ldc2 (v := 1) (pc' := 22) rfl (by decide) rfl ?_
      refine Rn.ldc2 (v := 24) (pc' := 25) rfl (by decide) rfl ?_
      refine Rn.si (pc' := 28) rfl (by decide) (by omega) rfl rfl (c_M_inI n 1 24 rfl rfl) ?_
      refine Rn.ifp_eq (pc1 := 41) (pc2 := 31) rfl rfl rfl (fun h28 => ?_) (fun h28 => ?_)
      · refine Rn.iconst (v := (-100000)) (pc' := 44) rfl (by decide) rfl ?_
        exact Rn.iret rfl (rfl) (⟨fun _ => ⟨rfl, MG.rfl _ _ _ _ _ _⟩, fun hg => absurd (Or.inr (Or.inr (Or.inl h28))) hg⟩)
      · refine Rn.step (pc' := 32) rfl rfl ?_
        refine Rn.i2l (pc' := 33) rfl rfl ?_
        refine Rn.ldc2 (v := 0) (pc' := 34) rfl (by decide) rfl ?_
        refine Rn.ldc2 (v := 1) (pc' := 35) rfl (by decide) rfl ?_
        refine Rn.si (pc' := 38) rfl (by decide) (by omega) rfl rfl (c_M_inI y 0 1 rfl rfl) ?_
        refine Rn.ifp_ne (pc1 := 45) (pc2 := 41) rfl rfl rfl (fun h38 => ?_) (fun h38 => ?_)
        · obtain ⟨hl, hw⟩ := hi.lane h4
          obtain ⟨N, hN, rfl⟩ := xN (n := 24) (by decide) (by decide) h28
          have eN : (nI N).toNatClampNeg = N := nI_clamp (by omega)
          refine Rn.step (pc' := 46) rfl rfl ?_
          refine Rn.vv (pc' := 49) rfl (by decide) (by omega) rfl rfl rfl (c_M_keeps) ?_
          refine Rn.step (pc' := 50) rfl rfl ?_
          refine Rn.step (pc' := 51) rfl rfl ?_
          refine Rn.callV (pc' := 54) rfl (by decide) (by omega) rfl rfl rfl (g_on hl hw hv (hru.a rfl rfl rfl rfl) (by omega) (N := N) (by omega)) (fun r_ m_ hc_ => ?_)
          obtain ⟨rfl, z3, x3, LA3, rfl⟩ := hc_
          refine Rn.step (pc' := 56) rfl rfl ?_
          refine Rn.step (pc' := 57) rfl rfl ?_
          refine Rn.vv (pc' := 60) rfl (by decide) (by omega) rfl rfl rfl (c_M_laysBack) ?_
          rw [va_up_self, cpf_back (mPo_w (E := (evf v rl Bn Fn Wn)) 0 hl hw N).1]
          refine Rn.iconst (v := (-2)) (pc' := 62) rfl (by decide) rfl ?_
          refine Rn.step (pc' := 64) rfl rfl ?_
          refine Rn.iconst (v := 0) (pc' := 65) rfl (by decide) rfl ?_
          refine Rn.step (pc' := 67) rfl rfl ?_
          refine Rn.iconst (v := 0) (pc' := 68) rfl (by decide) rfl ?_
          refine Rn.step (pc' := 70) rfl rfl ?_
          refine (l_M_second (y := y) (x := x) hl hw hv h23 hru (by omega) (N := N) (by omega) 0 (by omega) _ ⟨_, _, _, _, rfl, vs_2 (by unfold scr; omega) (by unfold scr; omega), as_up (fun _ _ => rfl) (by unfold sca; omega) _, cpf_lt⟩).conseq ?_
          rintro r m2 ⟨rfl, h9⟩
          exact ⟨fun hg => absurd hg (fun z => z.elim (fun c => c h4) (fun z => z.elim (fun c => c h16) (fun z => z.elim (fun c => c h28) (fun c => c h38)))), fun _ => ⟨by rw [eN], h9⟩⟩
        · refine Rn.iconst (v := (-100000)) (pc' := 44) rfl (by decide) rfl ?_
          exact Rn.iret rfl (rfl) (⟨fun _ => ⟨rfl, MG.rfl _ _ _ _ _ _⟩, fun hg => absurd (Or.inr (Or.inr (Or.inr (h38)))) hg⟩)
/-- a draw -/
def drw (x : Int64) : Int64 := (x * 1103515245 + 12345) - (x * 1103515245 + 12345) / 2147483648 * 2147483648
def drA (x : Int64) : Int32 := (drw x / 65536 - drw x / 65536 / 100 * 100).toInt32
theorem Rn.dxput {d j pc len pc' : Nat} {ls st : List Value} {Q : Option Value → xM → Prop} {x : Int64} (hG : xG j pc = some (.putfield 803, len)) (hp : pc + len = pc') (kk : Rn d j pc' ls st (MM m0 v x A LA) Q) : Rn d j pc ls (.long x :: .ref 50 :: st) (MM m0 v dx A LA) Q := by
  refine Rn.putf (ci := 12) (fs := mobj v dx) hG (by decide) rfl ⟨rfl, show 803 % 64 < 40 by decide⟩ rfl ⟨rfl, rfl⟩ hp ?_
  rw [show (mobj v dx).set (803 % 64) (.long x) = mobj v x from rfl, MM_setO]
  exact kk
theorem c_M_draw {d : Nat}  : Cl d j_M_draw [.ref 50, .int 100] (MS m0 v dx A LA s) (Pi (drA dx) (MS m0 v (drw dx) A LA s)) := by
  show Rn d j_M_draw 0 _ _ _ _
  refine Rn.step (pc' := 1) rfl rfl ?_
  refine Rn.step (pc' := 2) rfl rfl ?_
  refine Rn.getf (pc' := 5) rfl rfl rfl rfl rfl ?_
  refine Rn.ldc2 (v := 1103515245) (pc' := 8) rfl (by decide) rfl ?_
  refine Rn.lmul (pc' := 9) rfl rfl ?_
  refine Rn.ldc2 (v := 12345) (pc' := 12) rfl (by decide) rfl ?_
  refine Rn.ladd (pc' := 13) rfl rfl ?_
  refine Rn.ldc2 (v := 2147483648) (pc' := 16) rfl (by decide) rfl ?_
  refine Rn.lrem (pc' := 17) rfl (by decide) rfl ?_
  refine Rn.dxput (pc' := 20) rfl rfl ?_
  refine Rn.step (pc' := 21) rfl rfl ?_
  refine Rn.getf (pc' := 24) rfl rfl rfl rfl rfl ?_
  refine Rn.ldc2 (v := 65536) (pc' := 27) rfl (by decide) rfl ?_
  refine Rn.ldiv (pc' := 28) rfl (by decide) rfl ?_
  refine Rn.step (pc' := 29) rfl rfl ?_
  refine Rn.i2l (pc' := 30) rfl rfl ?_
  refine Rn.lrem (pc' := 31) rfl (by decide) rfl ?_
  refine Rn.l2i (pc' := 32) rfl rfl ?_
  exact Rn.reti rfl (rfl) (rfl) (rfl)
/-- hours of a winter: what is said, how many froze, what is paid, the last draw -/
def wiE (E : xEv) (p : Int32) (s : Nat → Int32) (z all : Int32) (x : Int64) : Nat → (Nat → Int32) × Int32 × Int32 × Int64
  | 0 => (s, z, all, x)
  | k + 1 => let q := wiE E p s z all x k
    let h := mPs (eFd E (if drA q.2.2.2 < p then 1 else 0)) q.1 q.2.1
    (h.1, h.2.1, q.2.2.1 + h.2.2, drw q.2.2.2)
theorem wiE_s (E : xEv) (p : Int32) (s : Nat → Int32) (z all : Int32) (x : Int64) (k : Nat) : wiE E p s z all x (k + 1) = ((mPs (eFd E (if drA (wiE E p s z all x k).2.2.2 < p then 1 else 0)) (wiE E p s z all x k).1 (wiE E p s z all x k).2.1).1, (mPs (eFd E (if drA (wiE E p s z all x k).2.2.2 < p then 1 else 0)) (wiE E p s z all x k).1 (wiE E p s z all x k).2.1).2.1, (wiE E p s z all x k).2.2.1 + (mPs (eFd E (if drA (wiE E p s z all x k).2.2.2 < p then 1 else 0)) (wiE E p s z all x k).1 (wiE E p s z all x k).2.1).2.2, drw (wiE E p s z all x k).2.2.2) := rfl
theorem wiE_w {P : Nat} {E : xEv} {s : Nat → Int32} (h : WL P E.Bn E.Fn E.Wn s) (g : WD P E.Bn s) (p z all : Int32) (x : Int64) : ∀ k, FX s (wiE E p s z all x k).1 ∧ WD P E.Bn (wiE E p s z all x k).1
  | 0 => ⟨FX.refl s, g⟩
  | k + 1 => by
    obtain ⟨f1, g1⟩ := wiE_w h g p z all x k
    rw [wiE_s]
    obtain ⟨f2, g2⟩ := mPs_w (E := eFd E (if drA (wiE E p s z all x k).2.2.2 < p then 1 else 0)) (wiE E p s z all x k).2.1 (h.fx f1) g1
    exact ⟨f1.trans f2, g2⟩
/-- winters: how many froze, what is paid, the last draw -/
def wnE (E : xEv) (p : Int32) (s : Nat → Int32) (N : Nat) (x : Int64) : Nat → Int32 × Int32 × Int64
  | 0 => (0, 0, x)
  | y + 1 => let q := wnE E p s N x y
    (wiE E p s q.1 q.2.1 q.2.2 N).2
theorem wnE_s (E : xEv) (p : Int32) (s : Nat → Int32) (N : Nat) (x : Int64) (y : Nat) : wnE E p s N x (y + 1) = (wiE E p s (wnE E p s N x y).1 (wnE E p s N x y).2.1 (wnE E p s N x y).2.2 N).2 := rfl
def gWi (s : Nat → Int32) (m n p y : Int32) : Prop := ¬ 0 < s 0 ∨ ¬ (1 ≤ m ∧ m ≤ 10) ∨ ¬ (1 ≤ n ∧ n ≤ 72) ∨ ¬ (0 ≤ p ∧ p ≤ 100) ∨ ¬ (0 ≤ y ∧ y ≤ 1)
/-- fields that the winters change -/
def scw (i : Nat) : Prop := i = 18 ∨ i = 25 ∨ i = 24
def MW (m0 : xM) (v : Nat → Int32) (A : Nat → Nat → Int32) (s0 s : Nat → Int32) (z : Int32) (x : Int64) (m : xM) : Prop := ∃ v' A' LA', m = MS m0 v' x A' LA' s ∧ (∀ i, ¬ scw i → v' i = v i) ∧ (∀ k, ¬ sca k → A' k = A k) ∧ v' 25 = z ∧ ∀ i, i < 52 → A' 62 i = s0 i
theorem vw_up {v v1 : Nat → Int32} (h : ∀ i, ¬ scw i → v1 i = v i) {a : Nat} (ha : scw a) (x : Int32) : ∀ i, ¬ scw i → upd v1 a x i = v i := fun i hi => by
  have hne : i ≠ a := fun e => hi (by rw [e]; exact ha)
  rw [upd_n _ _ hne]
  exact h i hi
theorem Rn.zput {d j pc len pc' : Nat} {ls st : List Value} {Q : Option Value → xM → Prop} {x : Int32} (hG : xG j pc = some (.putfield 792, len)) (hx : x = 0 ∨ x = 1) (hp : pc + len = pc') (kk : Rn d j pc' ls st (MM m0 (upd v 24 x) dx A LA) Q) : Rn d j pc ls (.int x :: .ref 50 :: st) (MM m0 v dx A LA) Q := by
  refine Rn.putf (ci := 12) (fs := mobj v dx) hG (by decide) rfl ⟨rfl, show 792 % 64 < 40 by decide⟩ rfl ⟨nar_b hx, by rcases hx with rfl | rfl <;> rfl⟩ hp ?_
  rw [show (mobj v dx).set (792 % 64) (.int x) = mobj (upd v 24 x) dx from rfl, MM_setO]
  exact kk
theorem l_M_wi {d P Bn Fn Wn N M Y : Nat} {rl : xRl} {p y z all : Int32} {x : Int64} {Q : Option Value → xM → Prop} (hl : WL P Bn Fn Wn s) (hw : WD P Bn s) (hru : mRu v A rl) (hd : 6 ≤ d) (hN : N < 1000) (k : Nat) (hk : k ≤ N) {m : xM} (hm : MW m0 v A s (wiE (evf v rl Bn Fn Wn) p s z all x k).1 (wiE (evf v rl Bn Fn Wn) p s z all x k).2.1 (wiE (evf v rl Bn Fn Wn) p s z all x k).2.2.2 m) (hkk : ∀ m, MW m0 v A s (wiE (evf v rl Bn Fn Wn) p s z all x N).1 (wiE (evf v rl Bn Fn Wn) p s z all x N).2.1 (wiE (evf v rl Bn Fn Wn) p s z all x N).2.2.2 m → Rn d j_M_winters 129 [.ref 50, .int (nI M), .int (nI N), .int p, .int y, .int (wiE (evf v rl Bn Fn Wn) p s z all x N).2.2.1, .int (nI Y), .int (nI N)] [] m Q) : Rn d j_M_winters 89 [.ref 50, .int (nI M), .int (nI N), .int p, .int y, .int (wiE (evf v rl Bn Fn Wn) p s z all x k).2.2.1, .int (nI Y), .int (nI k)] [] m Q := by
  obtain ⟨v1, A1, LA1, rfl, vs1, as1, q25, q62⟩ := hm
  have hf1 := (wiE_w (E := (evf v rl Bn Fn Wn)) hl hw p z all x k).1
  have hw1 := (wiE_w (E := (evf v rl Bn Fn Wn)) hl hw p z all x k).2
  refine Rn.step (pc' := 91) rfl rfl ?_
  refine Rn.step (pc' := 92) rfl rfl ?_
  refine Rn.icmp_ge (pc1 := 129) (pc2 := 95) rfl rfl rfl (fun h92 => ?_) (fun h92 => ?_)
  · obtain rfl := nI_up (by omega) hk h92
    exact hkk _ ⟨v1, A1, LA1, rfl, vs1, as1, q25, q62⟩
  · have hk2 := nI_dn (by omega) hk h92
    refine Rn.step (pc' := 96) rfl rfl ?_
    refine Rn.step (pc' := 97) rfl rfl ?_
    refine Rn.iconst (v := 100) (pc' := 99) rfl (by decide) rfl ?_
    refine Rn.vi (pc' := 102) rfl (by decide) (by omega) rfl rfl rfl (c_M_draw) ?_
    refine Rn.step (pc' := 103) rfl rfl ?_
    refine Rn.icmp_ge (pc1 := 110) (pc2 := 106) rfl rfl rfl (fun h103 => ?_) (fun h103 => ?_)
    · refine Rn.iconst (v := 0) (pc' := 111) rfl (by decide) rfl ?_
      refine Rn.zput (pc' := 114) rfl (Or.inl rfl) rfl ?_
      refine Rn.step (pc' := 116) rfl rfl ?_
      refine Rn.step (pc' := 117) rfl rfl ?_
      refine Rn.callV (pc' := 120) rfl (by decide) (by omega) rfl rfl rfl (g_pass (v := upd v1 24 0) (hl.fx hf1) hw1 (Or.inl rfl) (mRu.a (mRu.a hru (vs1 21 (by unfold scw; omega)) (as1 52 (by unfold sca; omega)) (as1 54 (by unfold sca; omega)) (as1 55 (by unfold sca; omega))) rfl rfl rfl rfl) (by omega)) (fun r_ m_ hc_ => ?_)
      obtain ⟨hr, x3, LA3, rfl⟩ := hc_
      have hfl : (if drA (wiE (evf v rl Bn Fn Wn) p s z all x k).2.2.2 < p then (1 : Int32) else 0) = 0 := if_neg (Int32.not_lt.mpr h103)
      have hE : evf (upd v1 24 0) rl Bn Fn Wn = eFd (evf v rl Bn Fn Wn) 0 := by
        show (v1 21, rl, v1 23, (0 : Int32), Bn, Fn, Wn) = (v 21, rl, v 23, (0 : Int32), Bn, Fn, Wn)
        rw [vs1 21 (by unfold scw; omega), vs1 23 (by unfold scw; omega)]
      have hz : upd v1 24 0 25 = (wiE (evf v rl Bn Fn Wn) p s z all x k).2.1 := q25
      have eS : hS (eFd (evf v rl Bn Fn Wn) 0) (wiE (evf v rl Bn Fn Wn) p s z all x k).1 = (mPs (eFd (evf v rl Bn Fn Wn) 0) (wiE (evf v rl Bn Fn Wn) p s z all x k).1 (wiE (evf v rl Bn Fn Wn) p s z all x k).2.1).1 := (mPs_z (eFd (evf v rl Bn Fn Wn) 0) (wiE (evf v rl Bn Fn Wn) p s z all x k).1 (wiE (evf v rl Bn Fn Wn) p s z all x k).2.1).1.symm
      have eP : hP (eFd (evf v rl Bn Fn Wn) 0) (wiE (evf v rl Bn Fn Wn) p s z all x k).1 = (mPs (eFd (evf v rl Bn Fn Wn) 0) (wiE (evf v rl Bn Fn Wn) p s z all x k).1 (wiE (evf v rl Bn Fn Wn) p s z all x k).2.1).2.2 := (mPs_z (eFd (evf v rl Bn Fn Wn) 0) (wiE (evf v rl Bn Fn Wn) p s z all x k).1 (wiE (evf v rl Bn Fn Wn) p s z all x k).2.1).2.symm
      rw [hz, hE, eS]
      rw [hE, eP] at hr
      subst hr
      refine Rn.iadd (pc' := 121) rfl rfl ?_
      refine Rn.step (pc' := 123) rfl rfl ?_
      refine Rn.step (pc' := 126) rfl rfl ?_
      refine Rn.step (pc' := 89) rfl rfl ?_
      have vs9 : ∀ i, ¬ scw i → upd (upd (upd v1 24 0) 25 (mPs (eFd (evf v rl Bn Fn Wn) 0) (wiE (evf v rl Bn Fn Wn) p s z all x k).1 (wiE (evf v rl Bn Fn Wn) p s z all x k).2.1).2.1) 18 x3 i = v i := vw_up (vw_up (vw_up vs1 (by unfold scw; omega) _) (by unfold scw; omega) _) (by unfold scw; omega) _
      have := l_M_wi (y := y) (M := M) (Y := Y) hl hw hru hd hN (k + 1) (by omega) (m := MS m0 (upd (upd (upd v1 24 0) 25 (mPs (eFd (evf v rl Bn Fn Wn) 0) (wiE (evf v rl Bn Fn Wn) p s z all x k).1 (wiE (evf v rl Bn Fn Wn) p s z all x k).2.1).2.1) 18 x3) (drw (wiE (evf v rl Bn Fn Wn) p s z all x k).2.2.2) A1 LA3 (mPs (eFd (evf v rl Bn Fn Wn) 0) (wiE (evf v rl Bn Fn Wn) p s z all x k).1 (wiE (evf v rl Bn Fn Wn) p s z all x k).2.1).1) (p := p) (z := z) (all := all) (x := x) (by
        rw [wiE_s, hfl]
        exact ⟨_, _, _, rfl, vs9, as1, rfl, q62⟩) hkk
      rw [wiE_s, hfl, ← nI_i1 k] at this
      exact this
    · refine Rn.iconst (v := 1) (pc' := 107) rfl (by decide) rfl ?_
      refine Rn.step (pc' := 111) rfl rfl ?_
      refine Rn.zput (pc' := 114) rfl (Or.inr rfl) rfl ?_
      refine Rn.step (pc' := 116) rfl rfl ?_
      refine Rn.step (pc' := 117) rfl rfl ?_
      refine Rn.callV (pc' := 120) rfl (by decide) (by omega) rfl rfl rfl (g_pass (v := upd v1 24 1) (hl.fx hf1) hw1 (Or.inr rfl) (mRu.a (mRu.a hru (vs1 21 (by unfold scw; omega)) (as1 52 (by unfold sca; omega)) (as1 54 (by unfold sca; omega)) (as1 55 (by unfold sca; omega))) rfl rfl rfl rfl) (by omega)) (fun r_ m_ hc_ => ?_)
      obtain ⟨hr, x3, LA3, rfl⟩ := hc_
      have hfl : (if drA (wiE (evf v rl Bn Fn Wn) p s z all x k).2.2.2 < p then (1 : Int32) else 0) = 1 := if_pos (Int32.not_le.mp h103)
      have hE : evf (upd v1 24 1) rl Bn Fn Wn = eFd (evf v rl Bn Fn Wn) 1 := by
        show (v1 21, rl, v1 23, (1 : Int32), Bn, Fn, Wn) = (v 21, rl, v 23, (1 : Int32), Bn, Fn, Wn)
        rw [vs1 21 (by unfold scw; omega), vs1 23 (by unfold scw; omega)]
      have hz : upd v1 24 1 25 = (wiE (evf v rl Bn Fn Wn) p s z all x k).2.1 := q25
      have eS : hS (eFd (evf v rl Bn Fn Wn) 1) (wiE (evf v rl Bn Fn Wn) p s z all x k).1 = (mPs (eFd (evf v rl Bn Fn Wn) 1) (wiE (evf v rl Bn Fn Wn) p s z all x k).1 (wiE (evf v rl Bn Fn Wn) p s z all x k).2.1).1 := (mPs_z (eFd (evf v rl Bn Fn Wn) 1) (wiE (evf v rl Bn Fn Wn) p s z all x k).1 (wiE (evf v rl Bn Fn Wn) p s z all x k).2.1).1.symm
      have eP : hP (eFd (evf v rl Bn Fn Wn) 1) (wiE (evf v rl Bn Fn Wn) p s z all x k).1 = (mPs (eFd (evf v rl Bn Fn Wn) 1) (wiE (evf v rl Bn Fn Wn) p s z all x k).1 (wiE (evf v rl Bn Fn Wn) p s z all x k).2.1).2.2 := (mPs_z (eFd (evf v rl Bn Fn Wn) 1) (wiE (evf v rl Bn Fn Wn) p s z all x k).1 (wiE (evf v rl Bn Fn Wn) p s z all x k).2.1).2.symm
      rw [hz, hE, eS]
      rw [hE, eP] at hr
      subst hr
      refine Rn.iadd (pc' := 121) rfl rfl ?_
      refine Rn.step (pc' := 123) rfl rfl ?_
      refine Rn.step (pc' := 126) rfl rfl ?_
      refine Rn.step (pc' := 89) rfl rfl ?_
      have vs9 : ∀ i, ¬ scw i → upd (upd (upd v1 24 1) 25 (mPs (eFd (evf v rl Bn Fn Wn) 1) (wiE (evf v rl Bn Fn Wn) p s z all x k).1 (wiE (evf v rl Bn Fn Wn) p s z all x k).2.1).2.1) 18 x3 i = v i := vw_up (vw_up (vw_up vs1 (by unfold scw; omega) _) (by unfold scw; omega) _) (by unfold scw; omega) _
      have := l_M_wi (y := y) (M := M) (Y := Y) hl hw hru hd hN (k + 1) (by omega) (m := MS m0 (upd (upd (upd v1 24 1) 25 (mPs (eFd (evf v rl Bn Fn Wn) 1) (wiE (evf v rl Bn Fn Wn) p s z all x k).1 (wiE (evf v rl Bn Fn Wn) p s z all x k).2.1).2.1) 18 x3) (drw (wiE (evf v rl Bn Fn Wn) p s z all x k).2.2.2) A1 LA3 (mPs (eFd (evf v rl Bn Fn Wn) 1) (wiE (evf v rl Bn Fn Wn) p s z all x k).1 (wiE (evf v rl Bn Fn Wn) p s z all x k).2.1).1) (p := p) (z := z) (all := all) (x := x) (by
        rw [wiE_s, hfl]
        exact ⟨_, _, _, rfl, vs9, as1, rfl, q62⟩) hkk
      rw [wiE_s, hfl, ← nI_i1 k] at this
      exact this
termination_by N - k
theorem l_M_wn {d P Bn Fn Wn N M : Nat} {rl : xRl} {p y : Int32} {x : Int64} (hl : WL P Bn Fn Wn s) (hw : WD P Bn s) (h24 : v 24 = 0) (hru : mRu v A rl) (hd : 6 ≤ d) (hN : N < 1000) (hM : M < 1000) (k : Nat) (hk : k ≤ M) (x7 : Value) {m : xM} (hm : MW m0 v A s s (wnE (evf v rl Bn Fn Wn) p s N x k).1 (wnE (evf v rl Bn Fn Wn) p s N x k).2.2 m) : Rn d j_M_winters 80 [.ref 50, .int (nI M), .int (nI N), .int p, .int y, .int (wnE (evf v rl Bn Fn Wn) p s N x k).2.1, .int (nI k), x7] [] m (fun r m2 => r = some (.int (if y = 0 then (wnE (evf v rl Bn Fn Wn) p s N x M).2.1 else (wnE (evf v rl Bn Fn Wn) p s N x M).1)) ∧ MG m0 v A s m2) := by
  obtain ⟨v1, A1, LA1, rfl, vs1, as1, q25, q62⟩ := hm
  refine Rn.step (pc' := 82) rfl rfl ?_
  refine Rn.step (pc' := 83) rfl rfl ?_
  refine Rn.icmp_ge (pc1 := 139) (pc2 := 86) rfl rfl rfl (fun h83 => ?_) (fun h83 => ?_)
  · obtain rfl := nI_up (by omega) hk h83
    have vs9 : ∀ i, ¬ scr i → upd v1 24 0 i = v i := fun i hi => by
      by_cases e : i = 24
      · subst e
        rw [upd_s, h24]
      · rw [upd_n _ _ e]
        exact vs1 i (by unfold scr at hi; unfold scw; omega)
    refine Rn.step (pc' := 140) rfl rfl ?_
    refine Rn.iconst (v := 0) (pc' := 141) rfl (by decide) rfl ?_
    refine Rn.zput (pc' := 144) rfl (Or.inl rfl) rfl ?_
    refine Rn.step (pc' := 146) rfl rfl ?_
    refine Rn.ifc_ne (pc1 := 154) (pc2 := 149) rfl rfl rfl (fun h146 => ?_) (fun h146 => ?_)
    · refine Rn.step (pc' := 155) rfl rfl ?_
      refine Rn.getf (pc' := 158) rfl rfl rfl rfl rfl ?_
      exact Rn.iret rfl (rfl) (⟨by
          rw [if_neg h146, ← q25]
          rfl, _, _, _, _, rfl, vs9, as1⟩)
    · refine Rn.step (pc' := 151) rfl rfl ?_
      refine Rn.step (pc' := 158) rfl rfl ?_
      exact Rn.iret rfl (rfl) (⟨by
          rw [if_pos h146], _, _, _, _, rfl, vs9, as1⟩)
  · have hk2 := nI_dn (by omega) hk h83
    refine Rn.iconst (v := 0) (pc' := 87) rfl (by decide) rfl ?_
    refine Rn.step (pc' := 89) rfl rfl ?_
    refine l_M_wi (y := y) (M := M) (Y := k) hl hw hru hd hN 0 (by omega) (p := p) (z := (wnE (evf v rl Bn Fn Wn) p s N x k).1) (all := (wnE (evf v rl Bn Fn Wn) p s N x k).2.1) (x := (wnE (evf v rl Bn Fn Wn) p s N x k).2.2) ⟨v1, A1, LA1, rfl, vs1, as1, q25, q62⟩ ?_
    intro m hm2
    obtain ⟨v2, A2, LA2, rfl, vs2, as2, r25, r62⟩ := hm2
    refine Rn.step (pc' := 130) rfl rfl ?_
    refine Rn.vv (pc' := 133) rfl (by decide) (by omega) rfl rfl rfl (c_M_laysBack) ?_
    rw [cpf_back2 (wiE_w (E := (evf v rl Bn Fn Wn)) hl hw p (wnE (evf v rl Bn Fn Wn) p s N x k).1 (wnE (evf v rl Bn Fn Wn) p s N x k).2.1 (wnE (evf v rl Bn Fn Wn) p s N x k).2.2 N).1 r62]
    refine Rn.step (pc' := 136) rfl rfl ?_
    refine Rn.step (pc' := 80) rfl rfl ?_
    have := l_M_wn (y := y) (M := M) (p := p) (x := x) hl hw h24 hru hd hN hM (k + 1) (by omega) (.int (nI N)) (m := MS m0 v2 (wiE (evf v rl Bn Fn Wn) p s (wnE (evf v rl Bn Fn Wn) p s N x k).1 (wnE (evf v rl Bn Fn Wn) p s N x k).2.1 (wnE (evf v rl Bn Fn Wn) p s N x k).2.2 N).2.2.2 A2 LA2 s) (by
      rw [wnE_s]
      exact ⟨_, _, _, rfl, vs2, as2, r25, r62⟩)
    rw [wnE_s, ← nI_i1 k] at this
    exact this
termination_by M - k
theorem c_M_winters {d P Bn Fn Wn : Nat} {rl : xRl} (hi : LI P Bn Fn Wn s) (h24 : v 24 = 0) (hru : mRu v A rl) (hd : 7 ≤ d) (q n p y : Int32) : Cl d j_M_winters [.ref 50, .int q, .int n, .int p, .int y] (MS m0 v dx A LA s) (fun r m2 => (gWi s q n p y → r = some (.int (-1)) ∧ MG m0 v A s m2) ∧ (¬ gWi s q n p y → r = some (.int (if y = 0 then (wnE (evf v rl Bn Fn Wn) p s n.toNatClampNeg (v 22).toInt64 q.toNatClampNeg).2.1 else (wnE (evf v rl Bn Fn Wn) p s n.toNatClampNeg (v 22).toInt64 q.toNatClampNeg).1)) ∧ MG m0 v A s m2)) := by
  show Rn d j_M_winters 0 _ _ _ _
  refine Rn.step (pc' := 1) rfl rfl ?_
  refine Rn.vi (pc' := 4) rfl (by decide) (by omega) rfl rfl rfl (c_M_isLane) ?_
  refine Rn.ifp_eq (pc1 := 54) (pc2 := 7) rfl rfl rfl (fun h4 => ?_) (fun h4 => ?_)
  · refine Rn.iconst (v := (-1)) (pc' := 55) rfl (by decide) rfl ?_
    exact Rn.iret rfl (rfl) (⟨fun _ => ⟨rfl, MG.rfl _ _ _ _ _ _⟩, fun hg => absurd (Or.inl h4) hg⟩)
  · refine Rn.step (pc' := 8) rfl rfl ?_
    refine Rn.i2l (pc' := 9) rfl rfl ?_
    refine Rn.ldc2 (v := 1) (pc' := 10) rfl (by decide) rfl ?_
    refine Rn.ldc2 (v := 10) (pc' := 13) rfl (by decide) rfl ?_
    refine Rn.si (pc' := 16) rfl (by decide) (by omega) rfl rfl (c_M_inI q 1 10 rfl rfl) ?_
    refine Rn.ifp_eq (pc1 := 54) (pc2 := 19) rfl rfl rfl (fun h16 => ?_) (fun h16 => ?_)
    · refine Rn.iconst (v := (-1)) (pc' := 55) rfl (by decide) rfl ?_
      exact Rn.iret rfl (rfl) (⟨fun _ => ⟨rfl, MG.rfl _ _ _ _ _ _⟩, fun hg => absurd (Or.inr (Or.inl h16)) hg⟩)
    · refine Rn.step (pc' := 20) rfl rfl ?_
      refine Rn.i2l (pc' := 21) rfl rfl ?_
      refine Rn.ldc2 (v := 1) (pc' := 22) rfl (by decide) rfl ?_
      refine Rn.ldc2 (v := 72) (pc' := 25) rfl (by decide) rfl ?_
      refine Rn.si (pc' := 28) rfl (by decide) (by omega) rfl rfl (c_M_inI n 1 72 rfl rfl) ?_
      refine Rn.ifp_eq (pc1 := 54) (pc2 := 31) rfl rfl rfl (fun h28 => ?_) (fun h28 => ?_)
      · refine Rn.iconst (v := (-1)) (pc' := 55) rfl (by decide) rfl ?_
        exact Rn.iret rfl (rfl) (⟨fun _ => ⟨rfl, MG.rfl _ _ _ _ _ _⟩, fun hg => absurd (Or.inr (Or.inr (Or.inl h28))) hg⟩)
      · refine Rn.step (pc' := 32) rfl rfl ?_
        refine Rn.i2l (pc' := 33) rfl rfl ?_
        refine Rn.ldc2 (v := 0) (pc' := 34) rfl (by decide) rfl ?_
        refine Rn.ldc2 (v := 100) (pc' := 37) rfl (by decide) rfl ?_
        refine Rn.si (pc' := 40) rfl (by decide) (by omega) rfl rfl (c_M_inI p 0 100 rfl rfl) ?_
        refine Rn.ifp_eq (pc1 := 54) (pc2 := 43) rfl rfl rfl (fun h40 => ?_) (fun h40 => ?_)
        · refine Rn.iconst (v := (-1)) (pc' := 55) rfl (by decide) rfl ?_
          exact Rn.iret rfl (rfl) (⟨fun _ => ⟨rfl, MG.rfl _ _ _ _ _ _⟩, fun hg => absurd (Or.inr (Or.inr (Or.inr (Or.inl h40)))) hg⟩)
        · refine Rn.step (pc' := 45) rfl rfl ?_
          refine Rn.i2l (pc' := 46) rfl rfl ?_
          refine Rn.ldc2 (v := 0) (pc' := 47) rfl (by decide) rfl ?_
          refine Rn.ldc2 (v := 1) (pc' := 48) rfl (by decide) rfl ?_
          refine Rn.si (pc' := 51) rfl (by decide) (by omega) rfl rfl (c_M_inI y 0 1 rfl rfl) ?_
          refine Rn.ifp_ne (pc1 := 56) (pc2 := 54) rfl rfl rfl (fun h51 => ?_) (fun h51 => ?_)
          · obtain ⟨hl, hw⟩ := hi.lane h4
            obtain ⟨N, hN, rfl⟩ := xN (n := 72) (by decide) (by decide) h28
            obtain ⟨M, hM, rfl⟩ := xN (n := 10) (by decide) (by decide) h16
            have eN : (nI N).toNatClampNeg = N := nI_clamp (by omega)
            have eM : (nI M).toNatClampNeg = M := nI_clamp (by omega)
            refine Rn.step (pc' := 57) rfl rfl ?_
            refine Rn.step (pc' := 58) rfl rfl ?_
            refine Rn.getf (pc' := 61) rfl rfl rfl rfl rfl ?_
            refine Rn.i2l (pc' := 62) rfl rfl ?_
            refine Rn.dxput (pc' := 65) rfl rfl ?_
            refine Rn.iconst (v := 0) (pc' := 66) rfl (by decide) rfl ?_
            refine Rn.step (pc' := 68) rfl rfl ?_
            refine Rn.step (pc' := 69) rfl rfl ?_
            refine Rn.iconst (v := 0) (pc' := 70) rfl (by decide) rfl ?_
            refine Rn.mput (pc' := 73) rfl rfl rfl rfl (by decide) rfl ?_
            refine Rn.step (pc' := 74) rfl rfl ?_
            refine Rn.vv (pc' := 77) rfl (by decide) (by omega) rfl rfl rfl (c_M_keeps) ?_
            refine Rn.iconst (v := 0) (pc' := 78) rfl (by decide) rfl ?_
            refine Rn.step (pc' := 80) rfl rfl ?_
            refine (l_M_wn (y := y) (p := p) (x := (v 22).toInt64) hl hw h24 hru (by omega) (N := N) (by omega) (by omega) 0 (by omega) _ ⟨_, _, _, rfl, vw_up (fun _ _ => rfl) (by unfold scw; omega) _, as_up (fun _ _ => rfl) (by unfold sca; omega) _, rfl, cpf_lt⟩).conseq ?_
            rintro r m2 ⟨rfl, h9⟩
            exact ⟨fun hg => absurd hg (fun z => z.elim (fun c => c h4) (fun z => z.elim (fun c => c h16) (fun z => z.elim (fun c => c h28) (fun z => z.elim (fun c => c h40) (fun c => c h51))))), fun _ => ⟨by rw [eN, eM], h9⟩⟩
          · refine Rn.iconst (v := (-1)) (pc' := 55) rfl (by decide) rfl ?_
            exact Rn.iret rfl (rfl) (⟨fun _ => ⟨rfl, MG.rfl _ _ _ _ _ _⟩, fun hg => absurd (Or.inr (Or.inr (Or.inr (Or.inr (h51))))) hg⟩)
/-- a row kept among others of 151 -/
def cpi (f s : Nat → Int32) (n k : Nat) : Nat → Int32 := fun i => if 151 * n ≤ i ∧ i < 151 * n + k then s (i - 151 * n) else f i
theorem cpi_s (f s : Nat → Int32) (n k : Nat) : upd (cpi f s n k) (151 * n + k) (s k) = cpi f s n (k + 1) := by
  funext i
  by_cases h : i = 151 * n + k
  · subst h
    rw [upd_s]
    unfold cpi
    rw [if_pos (by omega), show 151 * n + k - 151 * n = k by omega]
  · rw [upd_n _ _ h]
    unfold cpi
    by_cases h2 : 151 * n ≤ i ∧ i < 151 * n + k
    · rw [if_pos h2, if_pos (by omega)]
    · rw [if_neg h2, if_neg (by omega)]
theorem cpi_0 (f s : Nat → Int32) (n : Nat) : cpi f s n 0 = f := by
  funext i
  unfold cpi
  rw [if_neg (by omega)]
theorem x03 {x : Int32} (h : 0 ≤ x ∧ x ≤ 3) : ∃ k, k < 4 ∧ x = nI k := by
  obtain ⟨k, hk, e⟩ := xN (n := 3) (by decide) (by decide) h
  exact ⟨k, by omega, e⟩
theorem l_M_image {d n : Nat} {f : Nat → Int32} (hn : n < 4) (k : Nat) (hk : k ≤ 151) : Rn d j_M_image 43 [.ref 50, .int (nI n), .int (nI k)] [] (MS m0 v dx (va_up A 65 (cpi f s n k)) LA s) (Pi (s 6) (MS m0 v dx (va_up A 65 (cpi f s n 151)) LA s)) := by
  refine Rn.step (pc' := 44) rfl rfl ?_
  refine Rn.iconst (v := 151) (pc' := 47) rfl (by decide) rfl ?_
  refine Rn.icmp_ge (pc1 := 74) (pc2 := 50) rfl rfl rfl (fun h47 => ?_) (fun h47 => ?_)
  · obtain rfl := nI_up (by omega) hk h47
    refine Rn.step (pc' := 75) rfl rfl ?_
    refine Rn.getf (pc' := 78) rfl rfl rfl rfl rfl ?_
    refine Rn.iconst (v := 6) (pc' := 80) rfl (by decide) rfl ?_
    refine Rn.sald (k := 6) (pc' := 81) rfl rfl (by simp only [nI_lit, nI_add, pk_mul]) (by omega) (by decide) rfl ?_
    exact Rn.reti rfl (rfl) (rfl) (rfl)
  · have hk2 := nI_dn (by omega) hk h47
    refine Rn.step (pc' := 51) rfl rfl ?_
    refine Rn.getf (pc' := 54) rfl rfl rfl rfl rfl ?_
    refine Rn.iconst (v := 151) (pc' := 57) rfl (by decide) rfl ?_
    refine Rn.step (pc' := 58) rfl rfl ?_
    refine Rn.imul (pc' := 59) rfl rfl ?_
    refine Rn.step (pc' := 60) rfl rfl ?_
    refine Rn.iadd (pc' := 61) rfl rfl ?_
    refine Rn.step (pc' := 62) rfl rfl ?_
    refine Rn.getf (pc' := 65) rfl rfl rfl rfl rfl ?_
    refine Rn.step (pc' := 66) rfl rfl ?_
    refine Rn.sald (k := k) (pc' := 67) rfl rfl (by simp only [nI_lit, nI_add, pk_mul]) (by omega) (by decide) rfl ?_
    refine Rn.oast (k := 151 * n + k) (pc' := 68) rfl rfl (by decide) (by simp only [nI_lit, nI_add, pk_mul]) (by omega) (by decide) rfl ?_
    refine Rn.step (pc' := 71) rfl rfl ?_
    refine Rn.step (pc' := 43) rfl rfl ?_
    have := l_M_image (d := d) (f := f) hn (k + 1) (by omega)
    rw [← cpi_s, ← nI_i1 k] at this
    rw [va_up_self, up_up]
    exact this
termination_by 151 - k
def gIm (x : Int32) : Prop := ¬ (0 ≤ x ∧ x ≤ 3)
/-- an image made -/
def imA (v s : Nat → Int32) (A : Nat → Nat → Int32) (n : Nat) : Nat → Nat → Int32 := va_up (va_up (va_up (va_up A 68 (upd (A 68) n 1)) 66 (upd (A 66) n (v 21))) 67 (upd (A 67) n (v 22))) 65 (cpi (A 65) s n 151)
theorem vn_b1 : vp_nar .boolean 1 = 1 := by decide
theorem c_M_image {d : Nat} (hd : 1 ≤ d) (x : Int32) : Cl d j_M_image [.ref 50, .int x] (MS m0 v dx A LA s) (fun r m2 => (gIm x → r = some (.int (-1)) ∧ m2 = MS m0 v dx A LA s) ∧ (¬ gIm x → r = some (.int (s 6)) ∧ m2 = MS m0 v dx (imA v s A x.toNatClampNeg) LA s)) := by
  show Rn d j_M_image 0 _ _ _ _
  refine Rn.step (pc' := 1) rfl rfl ?_
  refine Rn.i2l (pc' := 2) rfl rfl ?_
  refine Rn.ldc2 (v := 0) (pc' := 3) rfl (by decide) rfl ?_
  refine Rn.ldc2 (v := 3) (pc' := 6) rfl (by decide) rfl ?_
  refine Rn.si (pc' := 9) rfl (by decide) (by omega) rfl rfl (c_M_inI x 0 3 rfl rfl) ?_
  refine Rn.ifp_ne (pc1 := 14) (pc2 := 12) rfl rfl rfl (fun h9 => ?_) (fun h9 => ?_)
  · obtain ⟨n, hn, rfl⟩ := x03 h9
    have en : (nI n).toNatClampNeg = n := nI_clamp (by omega)
    refine Rn.step (pc' := 15) rfl rfl ?_
    refine Rn.getf (pc' := 18) rfl rfl rfl rfl rfl ?_
    refine Rn.step (pc' := 19) rfl rfl ?_
    refine Rn.iconst (v := 1) (pc' := 20) rfl (by decide) rfl ?_
    refine Rn.obast (k := n) (pc' := 21) rfl rfl (by decide) (by decide) (by simp only [nI_lit, nI_add, pk_mul]) (by omega) (by decide) rfl ?_
    refine Rn.step (pc' := 22) rfl rfl ?_
    refine Rn.getf (pc' := 25) rfl rfl rfl rfl rfl ?_
    refine Rn.step (pc' := 26) rfl rfl ?_
    refine Rn.step (pc' := 27) rfl rfl ?_
    refine Rn.getf (pc' := 30) rfl rfl rfl rfl rfl ?_
    refine Rn.oast (k := n) (pc' := 31) rfl rfl (by decide) (by simp only [nI_lit, nI_add, pk_mul]) (by omega) (by decide) rfl ?_
    refine Rn.step (pc' := 32) rfl rfl ?_
    refine Rn.getf (pc' := 35) rfl rfl rfl rfl rfl ?_
    refine Rn.step (pc' := 36) rfl rfl ?_
    refine Rn.step (pc' := 37) rfl rfl ?_
    refine Rn.getf (pc' := 40) rfl rfl rfl rfl rfl ?_
    refine Rn.oast (k := n) (pc' := 41) rfl rfl (by decide) (by simp only [nI_lit, nI_add, pk_mul]) (by omega) (by decide) rfl ?_
    refine Rn.iconst (v := 0) (pc' := 42) rfl (by decide) rfl ?_
    refine Rn.step (pc' := 43) rfl rfl ?_
    have := l_M_image (d := d) (s := s) (f := A 65) (m0 := m0) (v := v) (dx := dx) (A := (va_up (va_up (va_up A 68 (upd (A 68) n 1)) 66 (upd (A 66) n (v 21))) 67 (upd (A 67) n (v 22)))) (LA := LA) hn 0 (by omega)
    rw [cpi_0, show va_up (va_up (va_up (va_up A 68 (upd (A 68) n 1)) 66 (upd (A 66) n (v 21))) 67 (upd (A 67) n (v 22))) 65 (A 65) = va_up (va_up (va_up A 68 (upd (A 68) n 1)) 66 (upd (A 66) n (v 21))) 67 (upd (A 67) n (v 22)) from up_id _ 65] at this
    refine Rn.conseq (P1 := _) (this) ?_
    rintro r m2 ⟨rfl, rfl⟩
    exact ⟨fun hg => absurd h9 hg, fun _ => ⟨rfl, by rw [en]; rfl⟩⟩
  · refine Rn.iconst (v := (-1)) (pc' := 13) rfl (by decide) rfl ?_
    exact Rn.iret rfl (rfl) (⟨fun _ => ⟨rfl, rfl⟩, fun hg => absurd h9 hg⟩)
theorem l_M_back {d n : Nat} (hn : n < 4) (k : Nat) (hk : k ≤ 151) : Rn d j_M_back 50 [.ref 50, .int (nI n), .int (nI k)] [] (MS m0 v dx A LA (cpf (fun i => A 65 (151 * n + i)) s k)) (Pi (A 65 (151 * n + 6)) (MS m0 v dx A LA (cpf (fun i => A 65 (151 * n + i)) s 151))) := by
  refine Rn.step (pc' := 51) rfl rfl ?_
  refine Rn.iconst (v := 151) (pc' := 54) rfl (by decide) rfl ?_
  refine Rn.icmp_ge (pc1 := 81) (pc2 := 57) rfl rfl rfl (fun h54 => ?_) (fun h54 => ?_)
  · obtain rfl := nI_up (by omega) hk h54
    refine Rn.step (pc' := 82) rfl rfl ?_
    refine Rn.getf (pc' := 85) rfl rfl rfl rfl rfl ?_
    refine Rn.iconst (v := 6) (pc' := 87) rfl (by decide) rfl ?_
    refine Rn.sald (k := 6) (pc' := 88) rfl rfl (by simp only [nI_lit, nI_add, pk_mul]) (by omega) (by decide) rfl ?_
    exact Rn.reti rfl (rfl) (rfl) (rfl)
  · have hk2 := nI_dn (by omega) hk h54
    refine Rn.step (pc' := 58) rfl rfl ?_
    refine Rn.getf (pc' := 61) rfl rfl rfl rfl rfl ?_
    refine Rn.step (pc' := 62) rfl rfl ?_
    refine Rn.step (pc' := 63) rfl rfl ?_
    refine Rn.getf (pc' := 66) rfl rfl rfl rfl rfl ?_
    refine Rn.iconst (v := 151) (pc' := 69) rfl (by decide) rfl ?_
    refine Rn.step (pc' := 70) rfl rfl ?_
    refine Rn.imul (pc' := 71) rfl rfl ?_
    refine Rn.step (pc' := 72) rfl rfl ?_
    refine Rn.iadd (pc' := 73) rfl rfl ?_
    refine Rn.oald (k := 151 * n + k) (pc' := 74) rfl rfl (by decide) (by simp only [nI_lit, nI_add, pk_mul]) (by omega) (by decide) rfl ?_
    refine Rn.sast (k := k) (pc' := 75) rfl rfl (by simp only [nI_lit, nI_add, pk_mul]) (by omega) (by decide) rfl ?_
    refine Rn.step (pc' := 78) rfl rfl ?_
    refine Rn.step (pc' := 50) rfl rfl ?_
    have := l_M_back (d := d) hn (k + 1) (by omega)
    rw [← cpf_s, ← nI_i1 k] at this
    exact this
termination_by 151 - k
def gBk (A : Nat → Nat → Int32) (x : Int32) : Prop := ¬ (0 ≤ x ∧ x ≤ 3) ∨ A 68 x.toNatClampNeg = 0
def bkV (v : Nat → Int32) (A : Nat → Nat → Int32) (n : Nat) : Nat → Int32 := upd (upd (upd v 21 (A 66 n)) 22 (A 67 n)) 27 0
def bkS (s : Nat → Int32) (A : Nat → Nat → Int32) (n : Nat) : Nat → Int32 := cpf (fun i => A 65 (151 * n + i)) s 151
theorem c_M_back {d : Nat} (hd : 1 ≤ d) (x : Int32) : Cl d j_M_back [.ref 50, .int x] (MS m0 v dx A LA s) (fun r m2 => (gBk A x → r = some (.int (-1)) ∧ m2 = MS m0 v dx A LA s) ∧ (¬ gBk A x → r = some (.int (A 65 (151 * x.toNatClampNeg + 6))) ∧ m2 = MS m0 (bkV v A x.toNatClampNeg) dx A LA (bkS s A x.toNatClampNeg))) := by
  show Rn d j_M_back 0 _ _ _ _
  refine Rn.step (pc' := 1) rfl rfl ?_
  refine Rn.i2l (pc' := 2) rfl rfl ?_
  refine Rn.ldc2 (v := 0) (pc' := 3) rfl (by decide) rfl ?_
  refine Rn.ldc2 (v := 3) (pc' := 6) rfl (by decide) rfl ?_
  refine Rn.si (pc' := 9) rfl (by decide) (by omega) rfl rfl (c_M_inI x 0 3 rfl rfl) ?_
  refine Rn.ifp_eq (pc1 := 21) (pc2 := 12) rfl rfl rfl (fun h9 => ?_) (fun h9 => ?_)
  · refine Rn.iconst (v := (-1)) (pc' := 22) rfl (by decide) rfl ?_
    exact Rn.iret rfl (rfl) (⟨fun _ => ⟨rfl, rfl⟩, fun hg => absurd (Or.inl h9) hg⟩)
  · obtain ⟨n, hn, rfl⟩ := x03 h9
    have en : (nI n).toNatClampNeg = n := nI_clamp (by omega)
    refine Rn.step (pc' := 13) rfl rfl ?_
    refine Rn.getf (pc' := 16) rfl rfl rfl rfl rfl ?_
    refine Rn.step (pc' := 17) rfl rfl ?_
    refine Rn.obald (k := n) (pc' := 18) rfl rfl (by decide) (by decide) (by simp only [nI_lit, nI_add, pk_mul]) (by omega) (by decide) rfl ?_
    refine Rn.ifc_ne (pc1 := 23) (pc2 := 21) rfl rfl rfl (fun h18 => ?_) (fun h18 => ?_)
    · refine Rn.step (pc' := 24) rfl rfl ?_
      refine Rn.step (pc' := 25) rfl rfl ?_
      refine Rn.getf (pc' := 28) rfl rfl rfl rfl rfl ?_
      refine Rn.step (pc' := 29) rfl rfl ?_
      refine Rn.oald (k := n) (pc' := 30) rfl rfl (by decide) (by simp only [nI_lit, nI_add, pk_mul]) (by omega) (by decide) rfl ?_
      refine Rn.mput (pc' := 33) rfl rfl rfl rfl (by decide) rfl ?_
      refine Rn.step (pc' := 34) rfl rfl ?_
      refine Rn.step (pc' := 35) rfl rfl ?_
      refine Rn.getf (pc' := 38) rfl rfl rfl rfl rfl ?_
      refine Rn.step (pc' := 39) rfl rfl ?_
      refine Rn.oald (k := n) (pc' := 40) rfl rfl (by decide) (by simp only [nI_lit, nI_add, pk_mul]) (by omega) (by decide) rfl ?_
      refine Rn.mput (pc' := 43) rfl rfl rfl rfl (by decide) rfl ?_
      refine Rn.step (pc' := 44) rfl rfl ?_
      refine Rn.iconst (v := 0) (pc' := 45) rfl (by decide) rfl ?_
      refine Rn.mput (pc' := 48) rfl rfl rfl rfl (by decide) rfl ?_
      refine Rn.iconst (v := 0) (pc' := 49) rfl (by decide) rfl ?_
      refine Rn.step (pc' := 50) rfl rfl ?_
      have := l_M_back (d := d) (s := s) (m0 := m0) (v := bkV v A n) (dx := dx) (A := A) (LA := LA) hn 0 (by omega)
      rw [cpf_0] at this
      refine Rn.conseq (P1 := _) (this) ?_
      rintro r m2 ⟨rfl, rfl⟩
      exact ⟨fun hg => absurd hg (fun z => z.elim (fun c => c h9) (fun c => h18 (by rw [en] at c; exact c))), fun _ => ⟨by rw [en], by rw [en]; rfl⟩⟩
    · refine Rn.iconst (v := (-1)) (pc' := 22) rfl (by decide) rfl ?_
      exact Rn.iret rfl (rfl) (⟨fun _ => ⟨rfl, rfl⟩, fun hg => absurd (Or.inr (by rw [en]; exact h18)) hg⟩)
end MJ
