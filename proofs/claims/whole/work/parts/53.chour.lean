/-! THE CLASS: an hour passes as the model has it. -/
section CD
variable {m0 : xM} {F I : Nat → Nat → Int32} {L : Nat → Nat → Int64} {R : Nat → Nat → Option Nat} {H : Value} {s w : Nat → Int32} {o : Nat} {gg : Prop}
/-- the rule of the hours is the one in force -/
def RH (E : xEv) (m0 : xM) (H : Value) : Prop := (E.fo < 0 ∧ H = .null) ∨ (¬ E.fo < 0 ∧ ∃ a, H = .ref a ∧ RuC m0 a (E.rl E.fo.toNatClampNeg))
/-- all that an hour needs -/
abbrev HB (P : Nat) (E : xEv) (s : Nat → Int32) (F I : Nat → Nat → Int32) (H : Value) (m0 : xM) : Prop := (LR P E.Bn E.Fn E.Wn s F I) ∧ (WL P E.Bn E.Fn E.Wn s) ∧ (WX P E.Wn s) ∧ (WD P E.Bn s) ∧ (F 14 4 = E.sec) ∧ (E.fd = 0 ∨ E.fd = 1) ∧ (RH E m0 H)
theorem HB.lr {P : Nat} {E : xEv} {s : Nat → Int32} {F I : Nat → Nat → Int32} {H : Value} {m0 : xM} (h : HB P E s F I H m0) : LR P E.Bn E.Fn E.Wn s F I := h.1
theorem HB.wl {P : Nat} {E : xEv} {s : Nat → Int32} {F I : Nat → Nat → Int32} {H : Value} {m0 : xM} (h : HB P E s F I H m0) : WL P E.Bn E.Fn E.Wn s := h.2.1
theorem HB.wx {P : Nat} {E : xEv} {s : Nat → Int32} {F I : Nat → Nat → Int32} {H : Value} {m0 : xM} (h : HB P E s F I H m0) : WX P E.Wn s := h.2.2.1
theorem HB.wd {P : Nat} {E : xEv} {s : Nat → Int32} {F I : Nat → Nat → Int32} {H : Value} {m0 : xM} (h : HB P E s F I H m0) : WD P E.Bn s := h.2.2.2.1
theorem HB.se {P : Nat} {E : xEv} {s : Nat → Int32} {F I : Nat → Nat → Int32} {H : Value} {m0 : xM} (h : HB P E s F I H m0) : F 14 4 = E.sec := h.2.2.2.2.1
theorem HB.fd {P : Nat} {E : xEv} {s : Nat → Int32} {F I : Nat → Nat → Int32} {H : Value} {m0 : xM} (h : HB P E s F I H m0) : E.fd = 0 ∨ E.fd = 1 := h.2.2.2.2.2.1
theorem HB.ru {P : Nat} {E : xEv} {s : Nat → Int32} {F I : Nat → Nat → Int32} {H : Value} {m0 : xM} (h : HB P E s F I H m0) : RH E m0 H := h.2.2.2.2.2.2
theorem HB.to {P : Nat} {E : xEv} {s t : Nat → Int32} {F I : Nat → Nat → Int32} {H : Value} {m0 : xM} (h : HB P E s F I H m0) (g : FX s t) (hw : WD P E.Bn t) : HB P E t F I H m0 := ⟨h.lr.fx h.wl.b6 g, h.wl.fx g, h.wx.fx g, hw, h.se, h.fd, h.ru⟩
theorem mPy_fxk {P Bn Fn Wn : Nat} {s : Nat → Int32} (h : WL P Bn Fn Wn s) {k : Nat} (hk : k ≤ Wn) : FX s (mPy s k).1 := fun i hi => mPy_out (fun k hk => by
  obtain ⟨c, h1, h2⟩ := h.wb k hk
  have := h.b6
  exact ⟨c, by omega, h2⟩) k hk i (fun b hb e => by
    subst e
    unfold fxc at hi
    omega)
theorem mPy_wdk {P Bn Fn Wn : Nat} {s : Nat → Int32} (h : WL P Bn Fn Wn s) (g : WD P Bn s) {k : Nat} (hk : k ≤ Wn) : WD P Bn (mPy s k).1 := g.ext h.b6 (fun i hi => mPy_out (fun k hk => by
  obtain ⟨c, h1, h2⟩ := h.wb k hk
  have := h.b6
  exact ⟨c, by omega, h2⟩) k hk i (fun b hb e => by
    subst e
    unfold wdc at hi
    omega))
theorem l_H_pay {d P Bn Fn Wn : Nat} (ho : isW o) (hl : LR P Bn Fn Wn s F I) (hL : WL P Bn Fn Wn s) (hg : WD P Bn s) (k : Nat) (hk : k ≤ Wn) (w : Nat → Int32) (hr : WR gg Bn (mPy s k).1 w) (x5 x6 x7 : Value) : Rn d j_Hours_pay 13 [.ref 14, .ref o, .int (mPy s k).2, .ref 22, .int (nI k), x5, x6, x7] [] (CWm m0 F I L R H o w) (fun r m2 => r = some (.int (mPy s Wn).2) ∧ ∃ w2, m2 = CWm m0 F I L R H o w2 ∧ WR gg Bn (mPy s Wn).1 w2) := by
  have hfx := mPy_fxk hL hk
  have gt := mPy_wdk hL hg hk
  refine Rn.step (pc' := 15) rfl rfl ?_
  refine Rn.step (pc' := 16) rfl rfl ?_
  refine Rn.getf (pc' := 19) rfl rfl rfl rfl rfl ?_
  refine Rn.getf (pc' := 22) rfl rfl rfl rfl rfl ?_
  refine Rn.icmp_ge (pc1 := 146) (pc2 := 25) rfl rfl rfl (fun h22 => ?_) (fun h22 => ?_)
  · obtain rfl := nI_up (by have := hL.w10; omega) hk (by rw [hl.wn, hL.w] at h22; exact h22)
    refine Rn.step (pc' := 147) rfl rfl ?_
    exact Rn.iret rfl (rfl) (⟨rfl, w, rfl, hr⟩)
  · have hk2 := nI_dn (by have := hL.w10; omega) hk (by rw [hl.wn, hL.w] at h22; exact h22)
    have h10 := hL.w10
    have hb6 := hL.b6
    obtain ⟨b, hb, eb⟩ := (hL.fx hfx).wb k hk2
    refine Rn.step (pc' := 26) rfl rfl ?_
    refine Rn.iconst (v := 4) (pc' := 27) rfl (by decide) rfl ?_
    refine Rn.step (pc' := 29) rfl rfl ?_
    refine Rn.imul (pc' := 30) rfl rfl ?_
    refine Rn.cald (k := 4 * k) (pc' := 31) rfl rfl (by simp only [nI_lit, nI_add, pk_mul, Nat.zero_add]) (by omega) (((hl.fx hL.b6 hfx).v ho _).wa (4 * k) (by omega)) (by decide) rfl ?_
    rw [eb]
    refine Rn.step (pc' := 33) rfl rfl ?_
    refine Rn.step (pc' := 34) rfl rfl ?_
    refine Rn.cgw (pc' := 37) rfl ho rfl ?_
    refine Rn.iconst (v := 0) (pc' := 38) rfl (by decide) rfl ?_
    refine Rn.step (pc' := 40) rfl rfl ?_
    refine Rn.iadd (pc' := 41) rfl rfl ?_
    refine Rn.cwld (k := b) (pc' := 42) rfl ho (by simp only [nI_lit, nI_add, pk_mul, Nat.zero_add]) (by omega) (hr.pl b hb) (by decide) rfl ?_
    refine Rn.step (pc' := 43) rfl rfl ?_
    refine Rn.iconst (v := 4) (pc' := 44) rfl (by decide) rfl ?_
    refine Rn.step (pc' := 46) rfl rfl ?_
    refine Rn.imul (pc' := 47) rfl rfl ?_
    refine Rn.iconst (v := 1) (pc' := 48) rfl (by decide) rfl ?_
    refine Rn.iadd (pc' := 49) rfl rfl ?_
    refine Rn.cald (k := 4 * k + 1) (pc' := 50) rfl rfl (by simp only [nI_lit, nI_add, pk_mul, Nat.zero_add]) (by omega) (((hl.fx hL.b6 hfx).v ho _).wa (4 * k + 1) (by omega)) (by decide) rfl ?_
    refine Rn.icmp_ne (pc1 := 57) (pc2 := 53) rfl rfl rfl (fun h50 => ?_) (fun h50 => ?_)
    · refine Rn.iconst (v := 0) (pc' := 58) rfl (by decide) rfl ?_
      refine Rn.step (pc' := 60) rfl rfl ?_
      refine Rn.step (pc' := 61) rfl rfl ?_
      refine Rn.cgw (pc' := 64) rfl ho rfl ?_
      refine Rn.iconst (v := 30) (pc' := 66) rfl (by decide) rfl ?_
      refine Rn.cwld (k := 30) (pc' := 67) rfl ho (by simp only [nI_lit, nI_add, pk_mul, Nat.zero_add]) (by omega) (hr.h) (by decide) rfl ?_
      refine Rn.step (pc' := 68) rfl rfl ?_
      refine Rn.iconst (v := 4) (pc' := 69) rfl (by decide) rfl ?_
      refine Rn.step (pc' := 71) rfl rfl ?_
      refine Rn.imul (pc' := 72) rfl rfl ?_
      refine Rn.iconst (v := 2) (pc' := 73) rfl (by decide) rfl ?_
      refine Rn.iadd (pc' := 74) rfl rfl ?_
      refine Rn.cald (k := 4 * k + 2) (pc' := 75) rfl rfl (by simp only [nI_lit, nI_add, pk_mul, Nat.zero_add]) (by omega) (((hl.fx hL.b6 hfx).v ho _).wa (4 * k + 2) (by omega)) (by decide) rfl ?_
      refine Rn.icmp_ne (pc1 := 82) (pc2 := 78) rfl rfl rfl (fun h75 => ?_) (fun h75 => ?_)
      · refine Rn.iconst (v := 0) (pc' := 83) rfl (by decide) rfl ?_
        refine Rn.step (pc' := 85) rfl rfl ?_
        refine Rn.step (pc' := 87) rfl rfl ?_
        refine Rn.ifc_eq (pc1 := 140) (pc2 := 90) rfl rfl rfl (fun h87 => ?_) (fun h87 => absurd (rfl) h87)
        refine Rn.step (pc' := 143) rfl rfl ?_
        refine Rn.step (pc' := 13) rfl rfl ?_
        have e : mPy s (k + 1) = mPy s k := by rw [mPy_s s eb (by omega), if_neg (fun z => h50 z.2.1)]
        have := l_H_pay (d := d) ho hl hL hg (k + 1) (by omega) w (by rw [e]; exact hr) (.int (nI b)) (.int 0) (.int 0)
        rw [e, ← nI_i1 k] at this
        exact this
      · refine Rn.iconst (v := 1) (pc' := 79) rfl (by decide) rfl ?_
        refine Rn.step (pc' := 83) rfl rfl ?_
        refine Rn.step (pc' := 85) rfl rfl ?_
        refine Rn.step (pc' := 87) rfl rfl ?_
        refine Rn.ifc_eq (pc1 := 140) (pc2 := 90) rfl rfl rfl (fun h87 => ?_) (fun h87 => absurd (rfl) h87)
        refine Rn.step (pc' := 143) rfl rfl ?_
        refine Rn.step (pc' := 13) rfl rfl ?_
        have e : mPy s (k + 1) = mPy s k := by rw [mPy_s s eb (by omega), if_neg (fun z => h50 z.2.1)]
        have := l_H_pay (d := d) ho hl hL hg (k + 1) (by omega) w (by rw [e]; exact hr) (.int (nI b)) (.int 0) (.int 1)
        rw [e, ← nI_i1 k] at this
        exact this
    · refine Rn.iconst (v := 1) (pc' := 54) rfl (by decide) rfl ?_
      refine Rn.step (pc' := 58) rfl rfl ?_
      refine Rn.step (pc' := 60) rfl rfl ?_
      refine Rn.step (pc' := 61) rfl rfl ?_
      refine Rn.cgw (pc' := 64) rfl ho rfl ?_
      refine Rn.iconst (v := 30) (pc' := 66) rfl (by decide) rfl ?_
      refine Rn.cwld (k := 30) (pc' := 67) rfl ho (by simp only [nI_lit, nI_add, pk_mul, Nat.zero_add]) (by omega) (hr.h) (by decide) rfl ?_
      refine Rn.step (pc' := 68) rfl rfl ?_
      refine Rn.iconst (v := 4) (pc' := 69) rfl (by decide) rfl ?_
      refine Rn.step (pc' := 71) rfl rfl ?_
      refine Rn.imul (pc' := 72) rfl rfl ?_
      refine Rn.iconst (v := 2) (pc' := 73) rfl (by decide) rfl ?_
      refine Rn.iadd (pc' := 74) rfl rfl ?_
      refine Rn.cald (k := 4 * k + 2) (pc' := 75) rfl rfl (by simp only [nI_lit, nI_add, pk_mul, Nat.zero_add]) (by omega) (((hl.fx hL.b6 hfx).v ho _).wa (4 * k + 2) (by omega)) (by decide) rfl ?_
      refine Rn.icmp_ne (pc1 := 82) (pc2 := 78) rfl rfl rfl (fun h75 => ?_) (fun h75 => ?_)
      · refine Rn.iconst (v := 0) (pc' := 83) rfl (by decide) rfl ?_
        refine Rn.step (pc' := 85) rfl rfl ?_
        refine Rn.step (pc' := 87) rfl rfl ?_
        refine Rn.ifc_eq (pc1 := 140) (pc2 := 90) rfl rfl rfl (fun h87 => absurd h87 (by decide)) (fun h87 => ?_)
        refine Rn.step (pc' := 92) rfl rfl ?_
        refine Rn.ifc_eq (pc1 := 140) (pc2 := 95) rfl rfl rfl (fun h92 => ?_) (fun h92 => absurd (rfl) h92)
        refine Rn.step (pc' := 143) rfl rfl ?_
        refine Rn.step (pc' := 13) rfl rfl ?_
        have e : mPy s (k + 1) = mPy s k := by rw [mPy_s s eb (by omega), if_neg (fun z => h75 z.1.symm)]
        have := l_H_pay (d := d) ho hl hL hg (k + 1) (by omega) w (by rw [e]; exact hr) (.int (nI b)) (.int 1) (.int 0)
        rw [e, ← nI_i1 k] at this
        exact this
      · refine Rn.iconst (v := 1) (pc' := 79) rfl (by decide) rfl ?_
        refine Rn.step (pc' := 83) rfl rfl ?_
        refine Rn.step (pc' := 85) rfl rfl ?_
        refine Rn.step (pc' := 87) rfl rfl ?_
        refine Rn.ifc_eq (pc1 := 140) (pc2 := 90) rfl rfl rfl (fun h87 => absurd h87 (by decide)) (fun h87 => ?_)
        refine Rn.step (pc' := 92) rfl rfl ?_
        refine Rn.ifc_eq (pc1 := 140) (pc2 := 95) rfl rfl rfl (fun h92 => absurd h92 (by decide)) (fun h92 => ?_)
        refine Rn.step (pc' := 96) rfl rfl ?_
        refine Rn.cgw (pc' := 99) rfl ho rfl ?_
        refine Rn.iconst (v := 12) (pc' := 101) rfl (by decide) rfl ?_
        refine Rn.step (pc' := 103) rfl rfl ?_
        refine Rn.iadd (pc' := 104) rfl rfl ?_
        refine Rn.cwld (k := 12 + b) (pc' := 105) rfl ho (by simp only [nI_lit, nI_add, pk_mul, Nat.zero_add]) (by omega) (hr.fz b hb) (by decide) rfl ?_
        refine Rn.ifc_ne (pc1 := 140) (pc2 := 108) rfl rfl rfl (fun h105 => ?_) (fun h105 => ?_)
        · refine Rn.step (pc' := 143) rfl rfl ?_
          refine Rn.step (pc' := 13) rfl rfl ?_
          have e : mPy s (k + 1) = mPy s k := by rw [mPy_s s eb (by omega), if_neg (fun z => z.2.2 ((gt.fz b hb).resolve_left h105))]
          have := l_H_pay (d := d) ho hl hL hg (k + 1) (by omega) w (by rw [e]; exact hr) (.int (nI b)) (.int 1) (.int 1)
          rw [e, ← nI_i1 k] at this
          exact this
        · refine Rn.step (pc' := 109) rfl rfl ?_
          refine Rn.cgw (pc' := 112) rfl ho rfl ?_
          refine Rn.iconst (v := 18) (pc' := 114) rfl (by decide) rfl ?_
          refine Rn.step (pc' := 116) rfl rfl ?_
          refine Rn.iadd (pc' := 117) rfl rfl ?_
          refine Rn.step (pc' := 118) rfl rfl ?_
          refine Rn.cwld (k := 18 + b) (pc' := 119) rfl ho (by simp only [nI_lit, nI_add, pk_mul, Nat.zero_add]) (by omega) (hr.ea b hb) (by decide) rfl ?_
          refine Rn.step (pc' := 120) rfl rfl ?_
          refine Rn.iconst (v := 4) (pc' := 121) rfl (by decide) rfl ?_
          refine Rn.step (pc' := 123) rfl rfl ?_
          refine Rn.imul (pc' := 124) rfl rfl ?_
          refine Rn.iconst (v := 3) (pc' := 125) rfl (by decide) rfl ?_
          refine Rn.iadd (pc' := 126) rfl rfl ?_
          refine Rn.cald (k := 4 * k + 3) (pc' := 127) rfl rfl (by simp only [nI_lit, nI_add, pk_mul, Nat.zero_add]) (by omega) (((hl.fx hL.b6 hfx).v ho _).wa (4 * k + 3) (by omega)) (by decide) rfl ?_
          refine Rn.iadd (pc' := 128) rfl rfl ?_
          refine Rn.cwst (k := 18 + b) (pc' := 129) rfl ho (by simp only [nI_lit, nI_add, pk_mul, Nat.zero_add]) (by omega) (by decide) rfl ?_
          refine Rn.step (pc' := 130) rfl rfl ?_
          refine Rn.step (pc' := 131) rfl rfl ?_
          refine Rn.iconst (v := 4) (pc' := 132) rfl (by decide) rfl ?_
          refine Rn.step (pc' := 134) rfl rfl ?_
          refine Rn.imul (pc' := 135) rfl rfl ?_
          refine Rn.iconst (v := 3) (pc' := 136) rfl (by decide) rfl ?_
          refine Rn.iadd (pc' := 137) rfl rfl ?_
          refine Rn.cald (k := 4 * k + 3) (pc' := 138) rfl rfl (by simp only [nI_lit, nI_add, pk_mul, Nat.zero_add]) (by omega) (((hl.fx hL.b6 hfx).v ho _).wa (4 * k + 3) (by omega)) (by decide) rfl ?_
          refine Rn.iadd (pc' := 139) rfl rfl ?_
          refine Rn.step (pc' := 140) rfl rfl ?_
          refine Rn.step (pc' := 143) rfl rfl ?_
          refine Rn.step (pc' := 13) rfl rfl ?_
          have e : mPy s (k + 1) = (upd (mPy s k).1 (10 + 6 * b + 5) ((mPy s k).1 (10 + 6 * b + 5) + (mPy s k).1 (60 + 4 * k + 3)), (mPy s k).2 + (mPy s k).1 (60 + 4 * k + 3)) := by rw [mPy_s s eb (by omega), if_pos ⟨h75.symm, h50, fun z => absurd (h105.symm.trans z) (by decide)⟩]
          have := l_H_pay (d := d) ho hl hL hg (k + 1) (by omega) (upd w (18 + b) ((mPy s k).1 (10 + 6 * b + 5) + (mPy s k).1 (60 + 4 * k + 3))) (by rw [e]; exact hr.uEa hL.b6 hb _) (.int (nI b)) (.int 1) (.int 1)
          rw [e, ← nI_i1 k] at this
          exact this
termination_by Wn - k
theorem c_H_pay {d P Bn Fn Wn : Nat} (ho : isW o) (hl : LR P Bn Fn Wn s F I) (hL : WL P Bn Fn Wn s) (hg : WD P Bn s) (hr : WR gg Bn s w) : Cl d j_Hours_pay [.ref 14, .ref o] (CWm m0 F I L R H o w) (fun r m2 => r = some (.int (mPy s Wn).2) ∧ ∃ w2, m2 = CWm m0 F I L R H o w2 ∧ WR gg Bn (mPy s Wn).1 w2) := by
  show Rn d j_Hours_pay 0 _ _ _ _
  refine Rn.iconst (v := 0) (pc' := 1) rfl (by decide) rfl ?_
  refine Rn.step (pc' := 2) rfl rfl ?_
  refine Rn.step (pc' := 3) rfl rfl ?_
  refine Rn.getf (pc' := 6) rfl rfl rfl rfl rfl ?_
  refine Rn.getf (pc' := 9) rfl rfl rfl rfl rfl ?_
  refine Rn.step (pc' := 10) rfl rfl ?_
  refine Rn.iconst (v := 0) (pc' := 11) rfl (by decide) rfl ?_
  refine Rn.step (pc' := 13) rfl rfl ?_
  exact l_H_pay ho hl hL hg 0 (by omega) w hr _ _ _
theorem Rn.cwds {d j pc len pc' : Nat} {ls st : List Value} {Q : Option Value → xM → Prop} {g : Nat → Int64} {k : Nat} {i : Int32} {x : Int64} (hG : xG j pc = some (.lastore, len)) (hi : i = nI k) (hk : k < 15) (hp : pc + len = pc') (kk : Rn d j pc' ls st (CC m0 F I (va_up L 15 (vp_updL g k x)) R H) Q) : Rn d j pc ls (.long x :: .int i :: .ref 15 :: st) (CC m0 F I (va_up L 15 g) R H) Q := by
  refine Rn.clst (a := 15) (n := 15) hG rfl hi hk (by decide) hp ?_
  rw [va_up_self, up_up]
  exact kk
theorem bc_b1 (s : Nat → Int32) (x : Int32) : bcF (mB1 s x) = (if s 46 = x then 1 else 0) + (if s 49 = x then 1 else 0) := by
  unfold mB1
  split <;> split <;> decide
/-- boots lying at a place, of the first k -/
def mLy (s : Nat → Int32) (p : Int32) : Nat → Int32
  | 0 => 0
  | k + 1 => mLy s p k + if s (46 + 3 * k) < 0 ∧ mPl s k = p then 1 else 0
theorem neg1 : (-1 : Int32) < 0 := by decide
theorem f_349 {d P b : Nat} {E : xEv} {fl n7 n8 : Int32} {g : Nat → Int64} (ho : isW o) (hh : HB P E s F I H m0) (hr : WR gg E.Bn s w) (hb : b < E.Bn) (hg : Wg (mWd s E.sec E.fd E.Bn E.Fn E.Wn b) g 14) (k : Nat) (hk : k ≤ 2) (x11 : Value) : Rn d j_Hours_fillWords 349 [.ref 14, .ref o, .int (nI b), .int fl, .ref (o + 1), .int (s (10 + 6 * b)), .int (s 5), .int n7, .int n8, .int (mLy s (s (10 + 6 * b)) k), .int (nI k), x11] [] (CWm m0 F I (va_up L 15 g) R H o w) (fun r m2 => r = none ∧ ∃ g2, m2 = CWm m0 F I (va_up L 15 g2) R H o w ∧ Wg (mWd s E.sec E.fd E.Bn E.Fn E.Wn b) g2 15) := by
  refine Rn.step (pc' := 351) rfl rfl ?_
  refine Rn.iconst (v := 2) (pc' := 352) rfl (by decide) rfl ?_
  refine Rn.icmp_ge (pc1 := 408) (pc2 := 355) rfl rfl rfl (fun h352 => ?_) (fun h352 => ?_)
  · obtain rfl := nI_up (by omega) hk h352
    refine Rn.step (pc' := 409) rfl rfl ?_
    refine Rn.getf (pc' := 412) rfl rfl rfl rfl rfl ?_
    refine Rn.iconst (v := 14) (pc' := 414) rfl (by decide) rfl ?_
    refine Rn.step (pc' := 416) rfl rfl ?_
    refine Rn.i2l (pc' := 417) rfl rfl ?_
    refine Rn.cwds (k := 14) (pc' := 418) rfl rfl (by omega) rfl ?_
    exact Rn.vret rfl (⟨rfl, _, rfl, hg.put (by show (mLy s (s (10 + 6 * b)) 2).toInt64 = _; rw [mLy, mLy, mLy, Int32.zero_add]; rfl)⟩)
  · have hk2 := nI_dn (by omega) hk h352
    refine Rn.step (pc' := 357) rfl rfl ?_
    refine Rn.iconst (v := 24) (pc' := 359) rfl (by decide) rfl ?_
    refine Rn.step (pc' := 361) rfl rfl ?_
    refine Rn.iadd (pc' := 362) rfl rfl ?_
    refine Rn.cwld (k := 24 + k) (pc' := 363) rfl ho (by simp only [nI_lit, nI_add, pk_mul, Nat.zero_add]) (by omega) (hr.wr k hk2) (by decide) rfl ?_
    refine Rn.iconst (v := (-1)) (pc' := 364) rfl (by decide) rfl ?_
    refine Rn.icmp_ne (pc1 := 384) (pc2 := 367) rfl rfl rfl (fun h364 => ?_) (fun h364 => ?_)
    · refine Rn.iconst (v := 0) (pc' := 385) rfl (by decide) rfl ?_
      refine Rn.step (pc' := 387) rfl rfl ?_
      refine Rn.step (pc' := 389) rfl rfl ?_
      refine Rn.step (pc' := 391) rfl rfl ?_
      refine Rn.ifc_eq (pc1 := 398) (pc2 := 394) rfl rfl rfl (fun h391 => ?_) (fun h391 => absurd (rfl) h391)
      refine Rn.iconst (v := 0) (pc' := 399) rfl (by decide) rfl ?_
      refine Rn.iadd (pc' := 400) rfl rfl ?_
      refine Rn.step (pc' := 402) rfl rfl ?_
      refine Rn.step (pc' := 405) rfl rfl ?_
      refine Rn.step (pc' := 349) rfl rfl ?_
      have e : mLy s (s (10 + 6 * b)) (k + 1) = mLy s (s (10 + 6 * b)) k + 0 := by rw [mLy, if_neg (fun z => h364 (((hh.wd.wr k hk2).resolve_right (fun y => by
          obtain ⟨c, h1, h2⟩ := y
          have := hh.wl.b6
          rw [h2] at z
          exact absurd z.1 (nI_pos (by omega))))))]
      have := f_349 (d := d) (fl := fl) (n7 := n7) (n8 := n8) ho hh hr hb hg (k + 1) (by omega) (.int 0)
      rw [e, ← nI_i1 k] at this
      exact this
    · refine Rn.step (pc' := 369) rfl rfl ?_
      refine Rn.iconst (v := 26) (pc' := 371) rfl (by decide) rfl ?_
      refine Rn.step (pc' := 373) rfl rfl ?_
      refine Rn.iadd (pc' := 374) rfl rfl ?_
      refine Rn.cwld (k := 26 + k) (pc' := 375) rfl ho (by simp only [nI_lit, nI_add, pk_mul, Nat.zero_add]) (by omega) (hr.li k hk2 (by rw [h364]; exact neg1)) (by decide) rfl ?_
      refine Rn.step (pc' := 377) rfl rfl ?_
      refine Rn.icmp_ne (pc1 := 384) (pc2 := 380) rfl rfl rfl (fun h377 => ?_) (fun h377 => ?_)
      · refine Rn.iconst (v := 0) (pc' := 385) rfl (by decide) rfl ?_
        refine Rn.step (pc' := 387) rfl rfl ?_
        refine Rn.step (pc' := 389) rfl rfl ?_
        refine Rn.step (pc' := 391) rfl rfl ?_
        refine Rn.ifc_eq (pc1 := 398) (pc2 := 394) rfl rfl rfl (fun h391 => ?_) (fun h391 => absurd (rfl) h391)
        refine Rn.iconst (v := 0) (pc' := 399) rfl (by decide) rfl ?_
        refine Rn.iadd (pc' := 400) rfl rfl ?_
        refine Rn.step (pc' := 402) rfl rfl ?_
        refine Rn.step (pc' := 405) rfl rfl ?_
        refine Rn.step (pc' := 349) rfl rfl ?_
        have e : mLy s (s (10 + 6 * b)) (k + 1) = mLy s (s (10 + 6 * b)) k + 0 := by rw [mLy, if_neg (fun z => h377 (by rw [← z.2, mPl_l z.1]))]
        have := f_349 (d := d) (fl := fl) (n7 := n7) (n8 := n8) ho hh hr hb hg (k + 1) (by omega) (.int 0)
        rw [e, ← nI_i1 k] at this
        exact this
      · refine Rn.iconst (v := 1) (pc' := 381) rfl (by decide) rfl ?_
        refine Rn.step (pc' := 385) rfl rfl ?_
        refine Rn.step (pc' := 387) rfl rfl ?_
        refine Rn.step (pc' := 389) rfl rfl ?_
        refine Rn.step (pc' := 391) rfl rfl ?_
        refine Rn.ifc_eq (pc1 := 398) (pc2 := 394) rfl rfl rfl (fun h391 => absurd h391 (by decide)) (fun h391 => ?_)
        refine Rn.iconst (v := 1) (pc' := 395) rfl (by decide) rfl ?_
        refine Rn.step (pc' := 399) rfl rfl ?_
        refine Rn.iadd (pc' := 400) rfl rfl ?_
        refine Rn.step (pc' := 402) rfl rfl ?_
        refine Rn.step (pc' := 405) rfl rfl ?_
        refine Rn.step (pc' := 349) rfl rfl ?_
        have e : mLy s (s (10 + 6 * b)) (k + 1) = mLy s (s (10 + 6 * b)) k + 1 := by rw [mLy, if_pos ⟨by rw [h364]; exact neg1, by rw [mPl_l (by rw [h364]; exact neg1)]; exact h377⟩]
        have := f_349 (d := d) (fl := fl) (n7 := n7) (n8 := n8) ho hh hr hb hg (k + 1) (by omega) (.int 1)
        rw [e, ← nI_i1 k] at this
        exact this
termination_by 2 - k
theorem mOt_o (s : Nat → Int32) (b k : Nat) (h : k ≠ b) : mOt s b (k + 1) = mOt s b k + (if s (10 + 6 * k) = s (10 + 6 * b) then 1 else 0) := by
  rw [mOt_s]
  by_cases e : s (10 + 6 * k) = s (10 + 6 * b)
  · rw [if_pos ⟨h, e⟩, if_pos e]
  · rw [if_neg (fun z => e z.2), if_neg e]
theorem mOt_b (s : Nat → Int32) (b : Nat) : mOt s b (b + 1) = mOt s b b := by
  rw [mOt_s, if_neg (fun z => z.1 rfl)]
  exact Int32.add_zero _
/-- others, as the class counts them -/
def oth (s : Nat → Int32) (b k : Nat) : Int32 := mOt s b k + if b < k then 0 else -1
theorem oth_s (s : Nat → Int32) (b k : Nat) : oth s b (k + 1) = oth s b k + (if s (10 + 6 * k) = s (10 + 6 * b) then 1 else 0) := by
  unfold oth
  by_cases e : k = b
  · subst e
    rw [mOt_b, if_pos (by omega), if_neg (by omega), if_pos rfl, Int32.add_assoc]
    rfl
  · rw [mOt_o s b k e]
    by_cases h : b < k
    · rw [if_pos (show b < k + 1 by omega), if_pos h, Int32.add_zero, Int32.add_zero]
    · rw [if_neg (show ¬ b < k + 1 by omega), if_neg h, Int32.add_assoc, Int32.add_assoc, Int32.add_comm (-1)]
theorem oth_0 (s : Nat → Int32) (b : Nat) : (-1 : Int32) = oth s b 0 := by
  unfold oth
  rw [if_neg (Nat.not_lt_zero b)]
  show (-1 : Int32) = 0 + -1
  decide
theorem f_293 {d P b : Nat} {E : xEv} {fl n7 : Int32} {g : Nat → Int64} (ho : isW o) (hh : HB P E s F I H m0) (hr : WR gg E.Bn s w) (hb : b < E.Bn) (hg : Wg (mWd s E.sec E.fd E.Bn E.Fn E.Wn b) g 13) (k : Nat) (hk : k ≤ E.Bn) (x10 x11 : Value) : Rn d j_Hours_fillWords 293 [.ref 14, .ref o, .int (nI b), .int fl, .ref (o + 1), .int (s (10 + 6 * b)), .int (s 5), .int n7, .int (oth s b k), .int (nI k), x10, x11] [] (CWm m0 F I (va_up L 15 g) R H o w) (fun r m2 => r = none ∧ ∃ g2, m2 = CWm m0 F I (va_up L 15 g2) R H o w ∧ Wg (mWd s E.sec E.fd E.Bn E.Fn E.Wn b) g2 15) := by
  refine Rn.step (pc' := 295) rfl rfl ?_
  refine Rn.step (pc' := 296) rfl rfl ?_
  refine Rn.getf (pc' := 299) rfl rfl rfl rfl rfl ?_
  refine Rn.getf (pc' := 302) rfl rfl rfl rfl rfl ?_
  refine Rn.icmp_ge (pc1 := 333) (pc2 := 305) rfl rfl rfl (fun h302 => ?_) (fun h302 => ?_)
  · obtain rfl := nI_up (by have := hh.wl.b6; omega) hk (by rw [hh.lr.b, hh.wl.b] at h302; exact h302)
    refine Rn.step (pc' := 334) rfl rfl ?_
    refine Rn.getf (pc' := 337) rfl rfl rfl rfl rfl ?_
    refine Rn.iconst (v := 13) (pc' := 339) rfl (by decide) rfl ?_
    refine Rn.step (pc' := 341) rfl rfl ?_
    refine Rn.i2l (pc' := 342) rfl rfl ?_
    refine Rn.cwds (k := 13) (pc' := 343) rfl rfl (by omega) rfl ?_
    refine Rn.iconst (v := 0) (pc' := 344) rfl (by decide) rfl ?_
    refine Rn.step (pc' := 346) rfl rfl ?_
    refine Rn.iconst (v := 0) (pc' := 347) rfl (by decide) rfl ?_
    refine Rn.step (pc' := 349) rfl rfl ?_
    exact f_349 ho hh hr hb (hg.put (by
      show (oth s b E.Bn).toInt64 = _
      unfold oth
      rw [if_pos hb, Int32.add_zero]
      rfl)) 0 (by omega) _
  · have hk2 := nI_dn (by have := hh.wl.b6; omega) hk (by rw [hh.lr.b, hh.wl.b] at h302; exact h302)
    have hb6 := hh.wl.b6
    refine Rn.step (pc' := 307) rfl rfl ?_
    refine Rn.step (pc' := 309) rfl rfl ?_
    refine Rn.iconst (v := 0) (pc' := 310) rfl (by decide) rfl ?_
    refine Rn.step (pc' := 312) rfl rfl ?_
    refine Rn.iadd (pc' := 313) rfl rfl ?_
    refine Rn.cwld (k := k) (pc' := 314) rfl ho (by simp only [nI_lit, nI_add, pk_mul, Nat.zero_add]) (by omega) (hr.pl k hk2) (by decide) rfl ?_
    refine Rn.step (pc' := 316) rfl rfl ?_
    refine Rn.icmp_ne (pc1 := 323) (pc2 := 319) rfl rfl rfl (fun h316 => ?_) (fun h316 => ?_)
    · refine Rn.iconst (v := 0) (pc' := 324) rfl (by decide) rfl ?_
      refine Rn.iadd (pc' := 325) rfl rfl ?_
      refine Rn.step (pc' := 327) rfl rfl ?_
      refine Rn.step (pc' := 330) rfl rfl ?_
      refine Rn.step (pc' := 293) rfl rfl ?_
      have e : oth s b (k + 1) = oth s b k + 0 := by rw [oth_s, if_neg h316]
      have := f_293 (d := d) (fl := fl) (n7 := n7) ho hh hr hb hg (k + 1) (by omega) x10 x11
      rw [e, ← nI_i1 k] at this
      exact this
    · refine Rn.iconst (v := 1) (pc' := 320) rfl (by decide) rfl ?_
      refine Rn.step (pc' := 324) rfl rfl ?_
      refine Rn.iadd (pc' := 325) rfl rfl ?_
      refine Rn.step (pc' := 327) rfl rfl ?_
      refine Rn.step (pc' := 330) rfl rfl ?_
      refine Rn.step (pc' := 293) rfl rfl ?_
      have e : oth s b (k + 1) = oth s b k + 1 := by rw [oth_s, if_pos h316]
      have := f_293 (d := d) (fl := fl) (n7 := n7) ho hh hr hb hg (k + 1) (by omega) x10 x11
      rw [e, ← nI_i1 k] at this
      exact this
termination_by E.Bn - k
theorem f_271 {d P b : Nat} {E : xEv} {fl n7 : Int32} {g : Nat → Int64} (ho : isW o) (hh : HB P E s F I H m0) (hr : WR gg E.Bn s w) (hb : b < E.Bn) {x8 x9 x10 x11 : Value} (x : Int64) (hx : x = mWd s E.sec E.fd E.Bn E.Fn E.Wn b 11) (hg : Wg (mWd s E.sec E.fd E.Bn E.Fn E.Wn b) g 11) : Rn d j_Hours_fillWords 271 [.ref 14, .ref o, .int (nI b), .int fl, .ref (o + 1), .int (s (10 + 6 * b)), .int (s 5), .int n7, x8, x9, x10, x11] [.long x, .int 11, .ref 15] (CWm m0 F I (va_up L 15 g) R H o w) (fun r m2 => r = none ∧ ∃ g2, m2 = CWm m0 F I (va_up L 15 g2) R H o w ∧ Wg (mWd s E.sec E.fd E.Bn E.Fn E.Wn b) g2 15) := by
  refine Rn.cwds (k := 11) (pc' := 272) rfl rfl (by omega) rfl ?_
  have hg2 := hg.put (x := x) hx
  have hb6 := hh.wl.b6
  refine Rn.step (pc' := 273) rfl rfl ?_
  refine Rn.getf (pc' := 276) rfl rfl rfl rfl rfl ?_
  refine Rn.iconst (v := 12) (pc' := 278) rfl (by decide) rfl ?_
  refine Rn.step (pc' := 280) rfl rfl ?_
  refine Rn.iconst (v := 6) (pc' := 282) rfl (by decide) rfl ?_
  refine Rn.step (pc' := 283) rfl rfl ?_
  refine Rn.iadd (pc' := 284) rfl rfl ?_
  refine Rn.cwld (k := 6 + b) (pc' := 285) rfl ho (by simp only [nI_lit, nI_add, pk_mul, Nat.zero_add]) (by omega) (hr.ch b hb) (by decide) rfl ?_
  refine Rn.i2l (pc' := 286) rfl rfl ?_
  refine Rn.cwds (k := 12) (pc' := 287) rfl rfl (by omega) rfl ?_
  refine Rn.iconst (v := (-1)) (pc' := 288) rfl (by decide) rfl ?_
  refine Rn.step (pc' := 290) rfl rfl ?_
  refine Rn.iconst (v := 0) (pc' := 291) rfl (by decide) rfl ?_
  refine Rn.step (pc' := 293) rfl rfl ?_
  exact Rn.ls12 rfl rfl rfl rfl rfl rfl rfl rfl (congrArg Value.int (oth_0 s b)) rfl rfl rfl (f_293 ho hh hr hb (hg2.put rfl) 0 (by omega) _ _)
theorem f_241 {d P b : Nat} {E : xEv} {fl n7 : Int32} {g : Nat → Int64} (ho : isW o) (hh : HB P E s F I H m0) (hr : WR gg E.Bn s w) (hb : b < E.Bn) (hd : 1 ≤ d) {x8 x9 x10 x11 : Value} (x : Int64) (hx : x = mWd s E.sec E.fd E.Bn E.Fn E.Wn b 10) (hg : Wg (mWd s E.sec E.fd E.Bn E.Fn E.Wn b) g 10) : Rn d j_Hours_fillWords 241 [.ref 14, .ref o, .int (nI b), .int fl, .ref (o + 1), .int (s (10 + 6 * b)), .int (s 5), .int n7, x8, x9, x10, x11] [.long x, .int 10, .ref 15] (CWm m0 F I (va_up L 15 g) R H o w) (fun r m2 => r = none ∧ ∃ g2, m2 = CWm m0 F I (va_up L 15 g2) R H o w ∧ Wg (mWd s E.sec E.fd E.Bn E.Fn E.Wn b) g2 15) := by
  refine Rn.cwds (k := 10) (pc' := 242) rfl rfl (by omega) rfl ?_
  have hg2 := hg.put (x := x) hx
  refine Rn.step (pc' := 243) rfl rfl ?_
  refine Rn.getf (pc' := 246) rfl rfl rfl rfl rfl ?_
  refine Rn.iconst (v := 11) (pc' := 248) rfl (by decide) rfl ?_
  refine Rn.step (pc' := 249) rfl rfl ?_
  refine Rn.getf (pc' := 252) rfl rfl rfl rfl rfl ?_
  refine Rn.step (pc' := 253) rfl rfl ?_
  refine Rn.icmp_ne (pc1 := 262) (pc2 := 256) rfl rfl rfl (fun h253 => ?_) (fun h253 => ?_)
  · refine Rn.step (pc' := 263) rfl rfl ?_
    refine Rn.step (pc' := 264) rfl rfl ?_
    refine Rn.vi (pc' := 267) rfl (by decide) (by omega) rfl (rcvW ho rfl) rfl (c_W_bootBitsOf ho hr (nI b)) ?_
    refine Rn.si (pc' := 270) rfl (by decide) (by omega) rfl rfl (c_bitCount _) ?_
    refine Rn.i2l (pc' := 271) rfl rfl ?_
    exact f_271 ho hh hr hb _ (by
      show _ = (mBM s E.sec (nI b)).toInt64
      unfold mBM
      rw [if_neg (fun z => h253 (hh.se.trans z.symm)), bc_b1]) hg2
  · refine Rn.ldc2 (v := 2) (pc' := 259) rfl (by decide) rfl ?_
    refine Rn.step (pc' := 271) rfl rfl ?_
    exact f_271 ho hh hr hb _ (by
      show _ = (mBM s E.sec (nI b)).toInt64
      unfold mBM
      rw [if_pos (h253.symm.trans hh.se)]
      first | rfl | rw [show ((2 : Int32).toInt64) = 2 by decide]) hg2
theorem f_207 {d P b : Nat} {E : xEv} {fl n7 : Int32} {g : Nat → Int64} (ho : isW o) (hh : HB P E s F I H m0) (hr : WR gg E.Bn s w) (hb : b < E.Bn) (hd : 1 ≤ d) (hfl : fl = mFr s E.fd E.Fn) {x8 x9 x10 x11 : Value} (x : Int64) (hx : x = mWd s E.sec E.fd E.Bn E.Fn E.Wn b 8) (hg : Wg (mWd s E.sec E.fd E.Bn E.Fn E.Wn b) g 8) : Rn d j_Hours_fillWords 207 [.ref 14, .ref o, .int (nI b), .int fl, .ref (o + 1), .int (s (10 + 6 * b)), .int (s 5), .int n7, x8, x9, x10, x11] [.long x, .int 8, .ref 15] (CWm m0 F I (va_up L 15 g) R H o w) (fun r m2 => r = none ∧ ∃ g2, m2 = CWm m0 F I (va_up L 15 g2) R H o w ∧ Wg (mWd s E.sec E.fd E.Bn E.Fn E.Wn b) g2 15) := by
  refine Rn.cwds (k := 8) (pc' := 208) rfl rfl (by omega) rfl ?_
  have hg2 := hg.put (x := x) hx
  obtain ⟨p, hp, hpe⟩ := hh.wd.pl b hb
  have hp10 := hh.wl.p10
  refine Rn.step (pc' := 209) rfl rfl ?_
  refine Rn.getf (pc' := 212) rfl rfl rfl rfl rfl ?_
  refine Rn.iconst (v := 9) (pc' := 214) rfl (by decide) rfl ?_
  refine Rn.step (pc' := 215) rfl rfl ?_
  refine Rn.getf (pc' := 218) rfl rfl rfl rfl rfl ?_
  refine Rn.getf (pc' := 221) rfl rfl rfl rfl rfl ?_
  refine Rn.step (pc' := 223) rfl rfl ?_
  refine Rn.cald (k := p) (pc' := 224) rfl rfl (hpe) (by omega) (((hh.lr).v ho _).we p hp) (by decide) rfl ?_
  refine Rn.i2l (pc' := 225) rfl rfl ?_
  refine Rn.cwds (k := 9) (pc' := 226) rfl rfl (by omega) rfl ?_
  have hg3 := hg2.put (x := (s (100 + p)).toInt64) (by
    show _ = (s (100 + (s (10 + 6 * b + 0)).toNatClampNeg)).toInt64
    rw [show s (10 + 6 * b + 0) = nI p from hpe, nI_clamp (by omega)])
  refine Rn.step (pc' := 227) rfl rfl ?_
  refine Rn.getf (pc' := 230) rfl rfl rfl rfl rfl ?_
  refine Rn.iconst (v := 10) (pc' := 232) rfl (by decide) rfl ?_
  refine Rn.step (pc' := 233) rfl rfl ?_
  refine Rn.ifc_eq (pc1 := 240) (pc2 := 236) rfl rfl rfl (fun h233 => ?_) (fun h233 => ?_)
  · refine Rn.ldc2 (v := 0) (pc' := 241) rfl (by decide) rfl ?_
    exact f_241 ho hh hr hb hd _ (by
      show _ = if mFr s E.fd E.Fn = 0 then (0 : Int64) else 1
      rw [← hfl, if_pos h233]) hg3
  · refine Rn.ldc2 (v := 1) (pc' := 237) rfl (by decide) rfl ?_
    refine Rn.step (pc' := 241) rfl rfl ?_
    exact f_241 ho hh hr hb hd _ (by
      show _ = if mFr s E.fd E.Fn = 0 then (0 : Int64) else 1
      rw [← hfl, if_neg h233]) hg3
set_option maxHeartbeats 4000000 in
theorem f_33n {d P b : Nat} {E : xEv} {fl : Int32} (ho : isW o) (hh : HB P E s F I H m0) (hr : WR gg E.Bn s w) (hb : b < E.Bn) (hfl : fl = mFr s E.fd E.Fn) (hd : 1 ≤ d) (hn : nxw s b E.Wn = none) : Rn d j_Hours_fillWords 33 [.ref 14, .ref o, .int (nI b), .int fl, .ref (o + 1), .int (s (10 + 6 * b)), .int (s 5), .int (-1), xb, xb, xb, xb] [] (CWm m0 F I (va_up L 15 (L 15)) R H o w) (fun r m2 => r = none ∧ ∃ g2, m2 = CWm m0 F I (va_up L 15 g2) R H o w ∧ Wg (mWd s E.sec E.fd E.Bn E.Fn E.Wn b) g2 15) := by
  have hb6 := hh.wl.b6
  have h10 := hh.wl.w10
  refine Rn.step (pc' := 34) rfl rfl ?_
  refine Rn.getf (pc' := 37) rfl rfl rfl rfl rfl ?_
  refine Rn.iconst (v := 0) (pc' := 38) rfl (by decide) rfl ?_
  refine Rn.step (pc' := 39) rfl rfl ?_
  refine Rn.i2l (pc' := 40) rfl rfl ?_
  refine Rn.cwds (k := 0) (pc' := 41) rfl rfl (by omega) rfl ?_
  refine Rn.step (pc' := 42) rfl rfl ?_
  refine Rn.getf (pc' := 45) rfl rfl rfl rfl rfl ?_
  refine Rn.iconst (v := 1) (pc' := 46) rfl (by decide) rfl ?_
  refine Rn.step (pc' := 48) rfl rfl ?_
  refine Rn.i2l (pc' := 49) rfl rfl ?_
  refine Rn.cwds (k := 1) (pc' := 50) rfl rfl (by omega) rfl ?_
  refine Rn.step (pc' := 51) rfl rfl ?_
  refine Rn.getf (pc' := 54) rfl rfl rfl rfl rfl ?_
  refine Rn.iconst (v := 2) (pc' := 55) rfl (by decide) rfl ?_
  refine Rn.step (pc' := 56) rfl rfl ?_
  refine Rn.getf (pc' := 59) rfl rfl rfl rfl rfl ?_
  refine Rn.getf (pc' := 62) rfl rfl rfl rfl rfl ?_
  refine Rn.step (pc' := 63) rfl rfl ?_
  refine Rn.cald (k := b) (pc' := 64) rfl rfl (by simp only [nI_lit, nI_add, pk_mul, Nat.zero_add]) (by omega) (((hh.lr).v ho _).hm b hb) (by decide) rfl ?_
  refine Rn.i2l (pc' := 65) rfl rfl ?_
  refine Rn.cwds (k := 2) (pc' := 66) rfl rfl (by omega) rfl ?_
  refine Rn.step (pc' := 67) rfl rfl ?_
  refine Rn.getf (pc' := 70) rfl rfl rfl rfl rfl ?_
  refine Rn.iconst (v := 3) (pc' := 71) rfl (by decide) rfl ?_
  refine Rn.step (pc' := 72) rfl rfl ?_
  refine Rn.getf (pc' := 75) rfl rfl rfl rfl rfl ?_
  refine Rn.getf (pc' := 78) rfl rfl rfl rfl rfl ?_
  refine Rn.step (pc' := 79) rfl rfl ?_
  refine Rn.cald (k := b) (pc' := 80) rfl rfl (by simp only [nI_lit, nI_add, pk_mul, Nat.zero_add]) (by omega) (((hh.lr).v ho _).si b hb) (by decide) rfl ?_
  refine Rn.i2l (pc' := 81) rfl rfl ?_
  refine Rn.cwds (k := 3) (pc' := 82) rfl rfl (by omega) rfl ?_
  refine Rn.step (pc' := 83) rfl rfl ?_
  refine Rn.getf (pc' := 86) rfl rfl rfl rfl rfl ?_
  refine Rn.iconst (v := 4) (pc' := 87) rfl (by decide) rfl ?_
  refine Rn.step (pc' := 89) rfl rfl ?_
  refine Rn.i2l (pc' := 90) rfl rfl ?_
  refine Rn.cwds (k := 4) (pc' := 91) rfl rfl (by omega) rfl ?_
  refine Rn.step (pc' := 92) rfl rfl ?_
  refine Rn.getf (pc' := 95) rfl rfl rfl rfl rfl ?_
  refine Rn.iconst (v := 5) (pc' := 96) rfl (by decide) rfl ?_
  refine Rn.step (pc' := 98) rfl rfl ?_
  refine Rn.iconst (v := 31) (pc' := 100) rfl (by decide) rfl ?_
  refine Rn.cwld (k := 31) (pc' := 101) rfl ho (by simp only [nI_lit, nI_add, pk_mul, Nat.zero_add]) (by omega) (hr.d) (by decide) rfl ?_
  refine Rn.i2l (pc' := 102) rfl rfl ?_
  refine Rn.cwds (k := 5) (pc' := 103) rfl rfl (by omega) rfl ?_
  refine Rn.step (pc' := 104) rfl rfl ?_
  refine Rn.getf (pc' := 107) rfl rfl rfl rfl rfl ?_
  refine Rn.iconst (v := 6) (pc' := 109) rfl (by decide) rfl ?_
  refine Rn.step (pc' := 111) rfl rfl ?_
  refine Rn.ifc_ge (pc1 := 127) (pc2 := 114) rfl rfl rfl (fun h111 => absurd h111 (by decide)) (fun h111 => ?_)
  refine Rn.step (pc' := 115) rfl rfl ?_
  refine Rn.getf (pc' := 118) rfl rfl rfl rfl rfl ?_
  refine Rn.getf (pc' := 121) rfl rfl rfl rfl rfl ?_
  refine Rn.step (pc' := 122) rfl rfl ?_
  refine Rn.cald (k := b) (pc' := 123) rfl rfl (by simp only [nI_lit, nI_add, pk_mul, Nat.zero_add]) (by omega) (((hh.lr).v ho _).hm b hb) (by decide) rfl ?_
  refine Rn.i2l (pc' := 124) rfl rfl ?_
  refine Rn.step (pc' := 142) rfl rfl ?_
  refine Rn.cwds (k := 6) (pc' := 143) rfl rfl (by omega) rfl ?_
  refine Rn.step (pc' := 144) rfl rfl ?_
  refine Rn.getf (pc' := 147) rfl rfl rfl rfl rfl ?_
  refine Rn.iconst (v := 7) (pc' := 149) rfl (by decide) rfl ?_
  refine Rn.step (pc' := 151) rfl rfl ?_
  refine Rn.ifc_ge (pc1 := 158) (pc2 := 154) rfl rfl rfl (fun h151 => absurd h151 (by decide)) (fun h151 => ?_)
  refine Rn.ldc2 (v := 0) (pc' := 155) rfl (by decide) rfl ?_
  refine Rn.step (pc' := 173) rfl rfl ?_
  refine Rn.cwds (k := 7) (pc' := 174) rfl rfl (by omega) rfl ?_
  refine Rn.step (pc' := 175) rfl rfl ?_
  refine Rn.getf (pc' := 178) rfl rfl rfl rfl rfl ?_
  refine Rn.iconst (v := 8) (pc' := 180) rfl (by decide) rfl ?_
  refine Rn.step (pc' := 182) rfl rfl ?_
  refine Rn.ifc_ge (pc1 := 189) (pc2 := 185) rfl rfl rfl (fun h182 => absurd h182 (by decide)) (fun h182 => ?_)
  refine Rn.ldc2 (v := 0) (pc' := 186) rfl (by decide) rfl ?_
  refine Rn.step (pc' := 207) rfl rfl ?_
  have w0 : Wg (mWd s E.sec E.fd E.Bn E.Fn E.Wn b) (L 15) 0 := fun i hi => absurd hi (by omega)
  have w1 := (((((w0.put (x := (nI b).toInt64) rfl).put (x := (s (10 + 6 * b)).toInt64) rfl).put (x := (s (10 + 6 * b + 1)).toInt64) rfl).put (x := (s (10 + 6 * b + 2)).toInt64) rfl).put (x := (s 5).toInt64) rfl).put (x := (s 6).toInt64) rfl
  have w7 := (w1.put (x := (s (10 + 6 * b + 1)).toInt64) (by
    show _ = (mGo s b E.Wn).toInt64
    unfold mGo
    rw [hn]
    try rfl)).put (x := 0) (by
    show _ = mWd s E.sec E.fd E.Bn E.Fn E.Wn b 7
    unfold mWd
    rw [hn]
    try rfl)
  refine f_207 ho hh hr hb (by omega) hfl _ ?_ w7
  show _ = mWd s E.sec E.fd E.Bn E.Fn E.Wn b 8
  unfold mWd
  rw [hn]
  try rfl
set_option maxHeartbeats 4000000 in
theorem f_33s {d P b q : Nat} {E : xEv} {fl : Int32} (ho : isW o) (hh : HB P E s F I H m0) (hr : WR gg E.Bn s w) (hb : b < E.Bn) (hfl : fl = mFr s E.fd E.Fn) (hd : 1 ≤ d) (hn : nxw s b E.Wn = some q) : Rn d j_Hours_fillWords 33 [.ref 14, .ref o, .int (nI b), .int fl, .ref (o + 1), .int (s (10 + 6 * b)), .int (s 5), .int (nI q), xb, xb, xb, xb] [] (CWm m0 F I (va_up L 15 (L 15)) R H o w) (fun r m2 => r = none ∧ ∃ g2, m2 = CWm m0 F I (va_up L 15 g2) R H o w ∧ Wg (mWd s E.sec E.fd E.Bn E.Fn E.Wn b) g2 15) := by
  have hq := nxw_lt hn
  have hb6 := hh.wl.b6
  have h10 := hh.wl.w10
  refine Rn.step (pc' := 34) rfl rfl ?_
  refine Rn.getf (pc' := 37) rfl rfl rfl rfl rfl ?_
  refine Rn.iconst (v := 0) (pc' := 38) rfl (by decide) rfl ?_
  refine Rn.step (pc' := 39) rfl rfl ?_
  refine Rn.i2l (pc' := 40) rfl rfl ?_
  refine Rn.cwds (k := 0) (pc' := 41) rfl rfl (by omega) rfl ?_
  refine Rn.step (pc' := 42) rfl rfl ?_
  refine Rn.getf (pc' := 45) rfl rfl rfl rfl rfl ?_
  refine Rn.iconst (v := 1) (pc' := 46) rfl (by decide) rfl ?_
  refine Rn.step (pc' := 48) rfl rfl ?_
  refine Rn.i2l (pc' := 49) rfl rfl ?_
  refine Rn.cwds (k := 1) (pc' := 50) rfl rfl (by omega) rfl ?_
  refine Rn.step (pc' := 51) rfl rfl ?_
  refine Rn.getf (pc' := 54) rfl rfl rfl rfl rfl ?_
  refine Rn.iconst (v := 2) (pc' := 55) rfl (by decide) rfl ?_
  refine Rn.step (pc' := 56) rfl rfl ?_
  refine Rn.getf (pc' := 59) rfl rfl rfl rfl rfl ?_
  refine Rn.getf (pc' := 62) rfl rfl rfl rfl rfl ?_
  refine Rn.step (pc' := 63) rfl rfl ?_
  refine Rn.cald (k := b) (pc' := 64) rfl rfl (by simp only [nI_lit, nI_add, pk_mul, Nat.zero_add]) (by omega) (((hh.lr).v ho _).hm b hb) (by decide) rfl ?_
  refine Rn.i2l (pc' := 65) rfl rfl ?_
  refine Rn.cwds (k := 2) (pc' := 66) rfl rfl (by omega) rfl ?_
  refine Rn.step (pc' := 67) rfl rfl ?_
  refine Rn.getf (pc' := 70) rfl rfl rfl rfl rfl ?_
  refine Rn.iconst (v := 3) (pc' := 71) rfl (by decide) rfl ?_
  refine Rn.step (pc' := 72) rfl rfl ?_
  refine Rn.getf (pc' := 75) rfl rfl rfl rfl rfl ?_
  refine Rn.getf (pc' := 78) rfl rfl rfl rfl rfl ?_
  refine Rn.step (pc' := 79) rfl rfl ?_
  refine Rn.cald (k := b) (pc' := 80) rfl rfl (by simp only [nI_lit, nI_add, pk_mul, Nat.zero_add]) (by omega) (((hh.lr).v ho _).si b hb) (by decide) rfl ?_
  refine Rn.i2l (pc' := 81) rfl rfl ?_
  refine Rn.cwds (k := 3) (pc' := 82) rfl rfl (by omega) rfl ?_
  refine Rn.step (pc' := 83) rfl rfl ?_
  refine Rn.getf (pc' := 86) rfl rfl rfl rfl rfl ?_
  refine Rn.iconst (v := 4) (pc' := 87) rfl (by decide) rfl ?_
  refine Rn.step (pc' := 89) rfl rfl ?_
  refine Rn.i2l (pc' := 90) rfl rfl ?_
  refine Rn.cwds (k := 4) (pc' := 91) rfl rfl (by omega) rfl ?_
  refine Rn.step (pc' := 92) rfl rfl ?_
  refine Rn.getf (pc' := 95) rfl rfl rfl rfl rfl ?_
  refine Rn.iconst (v := 5) (pc' := 96) rfl (by decide) rfl ?_
  refine Rn.step (pc' := 98) rfl rfl ?_
  refine Rn.iconst (v := 31) (pc' := 100) rfl (by decide) rfl ?_
  refine Rn.cwld (k := 31) (pc' := 101) rfl ho (by simp only [nI_lit, nI_add, pk_mul, Nat.zero_add]) (by omega) (hr.d) (by decide) rfl ?_
  refine Rn.i2l (pc' := 102) rfl rfl ?_
  refine Rn.cwds (k := 5) (pc' := 103) rfl rfl (by omega) rfl ?_
  refine Rn.step (pc' := 104) rfl rfl ?_
  refine Rn.getf (pc' := 107) rfl rfl rfl rfl rfl ?_
  refine Rn.iconst (v := 6) (pc' := 109) rfl (by decide) rfl ?_
  refine Rn.step (pc' := 111) rfl rfl ?_
  refine Rn.ifc_ge (pc1 := 127) (pc2 := 114) rfl rfl rfl (fun h111 => ?_) (fun h111 => absurd (nI_pos' (by omega)) h111)
  refine Rn.step (pc' := 128) rfl rfl ?_
  refine Rn.getf (pc' := 131) rfl rfl rfl rfl rfl ?_
  refine Rn.getf (pc' := 134) rfl rfl rfl rfl rfl ?_
  refine Rn.iconst (v := 4) (pc' := 135) rfl (by decide) rfl ?_
  refine Rn.step (pc' := 137) rfl rfl ?_
  refine Rn.imul (pc' := 138) rfl rfl ?_
  refine Rn.iconst (v := 1) (pc' := 139) rfl (by decide) rfl ?_
  refine Rn.iadd (pc' := 140) rfl rfl ?_
  refine Rn.cald (k := 4 * q + 1) (pc' := 141) rfl rfl (by simp only [nI_lit, nI_add, pk_mul, Nat.zero_add]) (by omega) (((hh.lr).v ho _).wa (4 * q + 1) (by omega)) (by decide) rfl ?_
  refine Rn.i2l (pc' := 142) rfl rfl ?_
  refine Rn.cwds (k := 6) (pc' := 143) rfl rfl (by omega) rfl ?_
  refine Rn.step (pc' := 144) rfl rfl ?_
  refine Rn.getf (pc' := 147) rfl rfl rfl rfl rfl ?_
  refine Rn.iconst (v := 7) (pc' := 149) rfl (by decide) rfl ?_
  refine Rn.step (pc' := 151) rfl rfl ?_
  refine Rn.ifc_ge (pc1 := 158) (pc2 := 154) rfl rfl rfl (fun h151 => ?_) (fun h151 => absurd (nI_pos' (by omega)) h151)
  refine Rn.step (pc' := 159) rfl rfl ?_
  refine Rn.getf (pc' := 162) rfl rfl rfl rfl rfl ?_
  refine Rn.getf (pc' := 165) rfl rfl rfl rfl rfl ?_
  refine Rn.iconst (v := 4) (pc' := 166) rfl (by decide) rfl ?_
  refine Rn.step (pc' := 168) rfl rfl ?_
  refine Rn.imul (pc' := 169) rfl rfl ?_
  refine Rn.iconst (v := 3) (pc' := 170) rfl (by decide) rfl ?_
  refine Rn.iadd (pc' := 171) rfl rfl ?_
  refine Rn.cald (k := 4 * q + 3) (pc' := 172) rfl rfl (by simp only [nI_lit, nI_add, pk_mul, Nat.zero_add]) (by omega) (((hh.lr).v ho _).wa (4 * q + 3) (by omega)) (by decide) rfl ?_
  refine Rn.i2l (pc' := 173) rfl rfl ?_
  refine Rn.cwds (k := 7) (pc' := 174) rfl rfl (by omega) rfl ?_
  refine Rn.step (pc' := 175) rfl rfl ?_
  refine Rn.getf (pc' := 178) rfl rfl rfl rfl rfl ?_
  refine Rn.iconst (v := 8) (pc' := 180) rfl (by decide) rfl ?_
  refine Rn.step (pc' := 182) rfl rfl ?_
  refine Rn.ifc_ge (pc1 := 189) (pc2 := 185) rfl rfl rfl (fun h182 => ?_) (fun h182 => absurd (nI_pos' (by omega)) h182)
  refine Rn.step (pc' := 190) rfl rfl ?_
  refine Rn.getf (pc' := 193) rfl rfl rfl rfl rfl ?_
  refine Rn.getf (pc' := 196) rfl rfl rfl rfl rfl ?_
  refine Rn.iconst (v := 4) (pc' := 197) rfl (by decide) rfl ?_
  refine Rn.step (pc' := 199) rfl rfl ?_
  refine Rn.imul (pc' := 200) rfl rfl ?_
  refine Rn.iconst (v := 2) (pc' := 201) rfl (by decide) rfl ?_
  refine Rn.iadd (pc' := 202) rfl rfl ?_
  refine Rn.cald (k := 4 * q + 2) (pc' := 203) rfl rfl (by simp only [nI_lit, nI_add, pk_mul, Nat.zero_add]) (by omega) (((hh.lr).v ho _).wa (4 * q + 2) (by omega)) (by decide) rfl ?_
  refine Rn.step (pc' := 205) rfl rfl ?_
  refine Rn.isub (pc' := 206) rfl rfl ?_
  refine Rn.i2l (pc' := 207) rfl rfl ?_
  have w0 : Wg (mWd s E.sec E.fd E.Bn E.Fn E.Wn b) (L 15) 0 := fun i hi => absurd hi (by omega)
  have w1 := (((((w0.put (x := (nI b).toInt64) rfl).put (x := (s (10 + 6 * b)).toInt64) rfl).put (x := (s (10 + 6 * b + 1)).toInt64) rfl).put (x := (s (10 + 6 * b + 2)).toInt64) rfl).put (x := (s 5).toInt64) rfl).put (x := (s 6).toInt64) rfl
  have w7 := (w1.put (x := (s (60 + (4 * q + 1))).toInt64) (by
    show _ = (mGo s b E.Wn).toInt64
    unfold mGo
    rw [hn]
    try rfl)).put (x := (s (60 + (4 * q + 3))).toInt64) (by
    show _ = mWd s E.sec E.fd E.Bn E.Fn E.Wn b 7
    unfold mWd
    rw [hn]
    try rfl)
  refine f_207 ho hh hr hb (by omega) hfl _ ?_ w7
  show _ = mWd s E.sec E.fd E.Bn E.Fn E.Wn b 8
  unfold mWd
  rw [hn]
  try rfl
theorem c_H_fillWords {d P b : Nat} {E : xEv} {fl : Int32} (ho : isW o) (hh : HB P E s F I H m0) (hr : WR gg E.Bn s w) (hb : b < E.Bn) (hfl : fl = mFr s E.fd E.Fn) (hd : 1 ≤ d) : Cl d j_Hours_fillWords [.ref 14, .ref o, .int (nI b), .int fl] (CWm m0 F I L R H o w) (fun r m2 => r = none ∧ ∃ g2, m2 = CWm m0 F I (va_up L 15 g2) R H o w ∧ Wg (mWd s E.sec E.fd E.Bn E.Fn E.Wn b) g2 15) := by
  have hb6 := hh.wl.b6
  have h10 := hh.wl.w10
  refine Rn.mm (m2 := CWm m0 F I (va_up L 15 (L 15)) R H o w) (by rw [up_id]) ?_
  show Rn d j_Hours_fillWords 0 _ _ _ _
  refine Rn.step (pc' := 1) rfl rfl ?_
  refine Rn.cgw (pc' := 4) rfl ho rfl ?_
  refine Rn.step (pc' := 6) rfl rfl ?_
  refine Rn.step (pc' := 8) rfl rfl ?_
  refine Rn.iconst (v := 0) (pc' := 9) rfl (by decide) rfl ?_
  refine Rn.step (pc' := 10) rfl rfl ?_
  refine Rn.iadd (pc' := 11) rfl rfl ?_
  refine Rn.cwld (k := b) (pc' := 12) rfl ho (by simp only [nI_lit, nI_add, pk_mul, Nat.zero_add]) (by omega) (hr.pl b hb) (by decide) rfl ?_
  refine Rn.step (pc' := 14) rfl rfl ?_
  refine Rn.step (pc' := 16) rfl rfl ?_
  refine Rn.iconst (v := 30) (pc' := 18) rfl (by decide) rfl ?_
  refine Rn.cwld (k := 30) (pc' := 19) rfl ho (by simp only [nI_lit, nI_add, pk_mul, Nat.zero_add]) (by omega) (hr.h) (by decide) rfl ?_
  refine Rn.step (pc' := 21) rfl rfl ?_
  refine Rn.step (pc' := 22) rfl rfl ?_
  refine Rn.getf (pc' := 25) rfl rfl rfl rfl rfl ?_
  refine Rn.step (pc' := 26) rfl rfl ?_
  refine Rn.step (pc' := 28) rfl rfl ?_
  refine Rn.vi (pc' := 31) rfl (by decide) (by omega) rfl rfl rfl (c_C_nextWant ((hh.lr).v ho _) hh.wl.w hh.wl.w10 hh.wl.wh (by omega)) ?_
  refine Rn.step (pc' := 33) rfl rfl ?_
  cases hn : nxw s b E.Wn with
  | none => exact f_33n ho hh hr hb hfl hd hn
  | some q => exact f_33s ho hh hr hb hfl hd hn
end CD
